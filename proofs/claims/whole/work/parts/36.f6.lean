-- Co_believe
def f_Co_believe_10 (a1 : Nat) : Nat → MW → Int32 → Int32 → Int32 → Option RT
  | 0, _, _, _, _ => none
  | n + 1, w, x2, x3, x4 => if (w.1 53 3) ≤ x4 then (some (some (.int x3), w)) else (grd (vpb x4 8 = true) (bI (f_Ct_senseOf w a1 (w.1 54 x4.toNatClampNeg)) (fun v3 w3 => if v3 = (-1) then (f_Co_believe_10 a1 n w3 x2 x3 (x4 + 1)) else (grd (vpb x4 8 = true) (if v3 = x2 then (grd (vpb x4 8 = true) (f_Co_believe_10 a1 n (setI (setI w3 (a1 + 2 + x4.toNatClampNeg) 3 v3) (a1 + 2 + x4.toNatClampNeg) 4 (((setI w3 (a1 + 2 + x4.toNatClampNeg) 3 v3).1 (a1 + 2 + x4.toNatClampNeg) 4) + 1)) x2 (x3 + 1) (x4 + 1))) else (f_Co_believe_10 a1 n (setI w3 (a1 + 2 + x4.toNatClampNeg) 3 v3) x2 x3 (x4 + 1)))))))
set_option maxHeartbeats 4000000 in
theorem r_Co_believe_10 {d : Nat} {r : Option Value} {w' : MW} (a1 : Nat) (c1 : isCt a1) : ∀ (n : Nat) (w : MW) (x2 : Int32) (x3 : Int32) (x4 : Int32), f_Co_believe_10 a1 n w x2 x3 x4 = some (r, w') → Rn (d + 3) mCo_believe 10 [some (.ref 53), some (.ref a1), some (.int x2), some (.int x3), some (.int x4), none] [] w r w' := by
  intro n
  induction n with
  | zero =>
    intro w x2 x3 x4 hf
    cases hf
  | succ n ih =>
    intro w x2 x3 x4 hf
    rw [f_Co_believe_10] at hf
    refine bCo_believe_10 (kt := fun q1 => ?_) (kf := fun q1 => ?_)
    · replace hf := ite_t q1 hf
      obtain ⟨rfl, rfl⟩ := ret_e hf
      exact bCo_believe_84 
    · replace hf := ite_f q1 hf
      obtain ⟨g3_0, hf⟩ := grd_e hf
      obtain ⟨v3, w3, e3, hf⟩ := bI_e hf
      refine bCo_believe_19 (y1 := 54) (h3 := (vpb_ok g3_0)) (h4 := ct_k c1) (ct := c_Ct_senseOf (d := d + 1) w a1 (w.1 54 x4.toNatClampNeg) c1 e3) (k := ?_)
      refine bCo_believe_30 (kt := fun q4 => ?_) (kf := fun q4 => ?_)
      · replace hf := ite_f q4 hf
        obtain ⟨g5_0, hf⟩ := grd_e hf
        refine bCo_believe_41 (y1 := a1 + 1) (h1 := ct_r0 c1) (y2 := a1 + 2 + x4.toNatClampNeg) (h2 := ct_k12 c1) (h3 := ct_l8 c1 (vpb_ok g5_0)) (h4 := ct_mn c1 (vpb_ok g5_0)) (h5 := mn_g (mn_of c1 (vpb_ok g5_0)) 3 (by decide)) (kt := fun q5 => ?_) (kf := fun q5 => ?_)
        · replace hf := ite_f q5 hf
          refine bCo_believe_78 (k := ?_)
          exact ih (setI w3 (a1 + 2 + x4.toNatClampNeg) 3 v3) x2 x3 (x4 + 1) hf
        · replace hf := ite_t q5 hf
          obtain ⟨g7_0, hf⟩ := grd_e hf
          refine bCo_believe_59 (y1 := a1 + 1) (h1 := ct_r0 c1) (y2 := a1 + 2 + x4.toNatClampNeg) (h2 := ct_k12 c1) (h3 := ct_l8 c1 (vpb_ok g7_0)) (h4 := ct_mn c1 (vpb_ok g7_0)) (h5 := mn_g (mn_of c1 (vpb_ok g7_0)) 4 (by decide)) (h6 := mn_g (mn_of c1 (vpb_ok g7_0)) 4 (by decide)) (k := ?_)
          refine bCo_believe_78 (k := ?_)
          exact ih (setI (setI w3 (a1 + 2 + x4.toNatClampNeg) 3 v3) (a1 + 2 + x4.toNatClampNeg) 4 (((setI w3 (a1 + 2 + x4.toNatClampNeg) 3 v3).1 (a1 + 2 + x4.toNatClampNeg) 4) + 1)) x2 (x3 + 1) (x4 + 1) hf
      · replace hf := ite_t q4 hf
        refine bCo_believe_38 (k := ?_)
        refine bCo_believe_78 (k := ?_)
        exact ih w3 x2 x3 (x4 + 1) hf
def f_Co_believe (w : MW) (a1 : Nat) : Option RT := bI (f_Ct_wholeSense w a1) (fun v1 w1 => f_Co_believe_10 a1 FU w1 v1 (0 : Int32) (0 : Int32))
set_option maxHeartbeats 4000000 in
theorem c_Co_believe {d : Nat} {r : Option Value} {w' : MW} (w : MW) (a1 : Nat) (c1 : isCt a1) (hf : f_Co_believe w a1 = some (r, w')) : Ct (d + 3) mCo_believe [.ref 53, .ref a1] w r w' := by
  refine eCo_believe ?_
  unfold f_Co_believe at hf
  obtain ⟨v1, w1, e1, hf⟩ := bI_e hf
  refine bCo_believe_0 (h1 := ct_k c1) (ct := c_Ct_wholeSense (d := d) w a1 c1 e1) (k := ?_)
  refine bCo_believe_4 (k := ?_)
  exact r_Co_believe_10 a1 c1 FU w1 v1 (0 : Int32) (0 : Int32) hf
-- Mv_run
def f_Mv_runN : Nat → MW → Int32 → Int32 → Int32 → Int32 → Option RT
  | 0, _, _, _, _, _ => none
  | n + 1, w, x1, x2, x3, x4 => bI (f_Mv_ownerOf w x1 x2) (fun v1 w1 => if v1 = (-1) then (some (some (.int (0 : Int32)), w1)) else (if x4 ≤ 40 then (grd (vpb ((3 * v1) + x2) 21 = true) (grd (vpb v1 7 = true) (grd (¬ 20 ≤ (w1.1 60 1) → vpb (w1.1 60 1) 20 = true) (if (w1.1 82 ((3 * v1) + x2).toNatClampNeg) = 10 then (some (some (.int (x3 + ((u_Mv_note w1 (w1.1 82 ((3 * v1) + x2).toNatClampNeg)).1 60 2))), u_Mv_note w1 (w1.1 82 ((3 * v1) + x2).toNatClampNeg))) else if (w1.1 82 ((3 * v1) + x2).toNatClampNeg) = 11 then (bI (f_Mv_runN n (u_Mv_note w1 (w1.1 82 ((3 * v1) + x2).toNatClampNeg)) ((u_Mv_note w1 (w1.1 82 ((3 * v1) + x2).toNatClampNeg)).1 60 3) (0 : Int32) x3 (x4 + 1)) (fun v8 w8 => some (some (.int (v8 * 2)), w8))) else if (w1.1 82 ((3 * v1) + x2).toNatClampNeg) = 12 then (bI (f_Mv_runN n (u_Mv_note w1 (w1.1 82 ((3 * v1) + x2).toNatClampNeg)) ((u_Mv_note w1 (w1.1 82 ((3 * v1) + x2).toNatClampNeg)).1 60 3) (1 : Int32) x3 (x4 + 1)) (fun v10 w10 => bI (f_Mv_runN n w10 (w10.1 60 3) (0 : Int32) (x3 - (w10.1 60 4)) (x4 + 1)) (fun v11 w11 => some (some (.int (v10 ^^^ v11)), w11)))) else if (w1.1 82 ((3 * v1) + x2).toNatClampNeg) = 20 then (bI (f_Mv_runN n (u_Mv_note w1 (w1.1 82 ((3 * v1) + x2).toNatClampNeg)) (w1.1 81 v1.toNatClampNeg) (0 : Int32) x3 (x4 + 1)) (fun v13 w13 => some (some (.int (v13 + (w13.1 60 4))), w13))) else if (w1.1 82 ((3 * v1) + x2).toNatClampNeg) = 30 then (bI (f_Mv_runN n (u_Mv_note w1 (w1.1 82 ((3 * v1) + x2).toNatClampNeg)) (w1.1 81 v1.toNatClampNeg) (1 : Int32) x3 (x4 + 1)) (fun v15 w15 => some (some (.int (v15 * 3)), w15))) else if (w1.1 82 ((3 * v1) + x2).toNatClampNeg) = 40 then (bI (f_Mv_runN n (u_Mv_note w1 (w1.1 82 ((3 * v1) + x2).toNatClampNeg)) (w1.1 81 v1.toNatClampNeg) (1 : Int32) (x3 + 1) (x4 + 1)) (fun v17 w17 => some (some (.int v17), w17))) else if (w1.1 82 ((3 * v1) + x2).toNatClampNeg) = 50 then (bI (f_Mv_runN n (u_Mv_note w1 (w1.1 82 ((3 * v1) + x2).toNatClampNeg)) (w1.1 81 v1.toNatClampNeg) (2 : Int32) x3 (x4 + 1)) (fun v19 w19 => some (some (.int (-v19)), w19))) else if (w1.1 82 ((3 * v1) + x2).toNatClampNeg) = 51 then (bI (f_Mv_runN n (u_Mv_note w1 (w1.1 82 ((3 * v1) + x2).toNatClampNeg)) (w1.1 81 v1.toNatClampNeg) (0 : Int32) x3 (x4 + 1)) (fun v21 w21 => some (some (.int (v21 - (w21.1 60 2))), w21))) else if (w1.1 82 ((3 * v1) + x2).toNatClampNeg) = 60 then (bI (f_Mv_runN n (u_Mv_note w1 (w1.1 82 ((3 * v1) + x2).toNatClampNeg)) (w1.1 81 v1.toNatClampNeg) (2 : Int32) x3 (x4 + 1)) (fun v23 w23 => some (some (.int (v23 ^^^ 5)), w23))) else if (w1.1 82 ((3 * v1) + x2).toNatClampNeg) = 70 then (bI (f_Mv_runN n (u_Mv_note w1 (w1.1 82 ((3 * v1) + x2).toNatClampNeg)) (w1.1 81 v1.toNatClampNeg) (0 : Int32) x3 (x4 + 1)) (fun v25 w25 => some (some (.int (v25 * 2)), w25))) else if (w1.1 82 ((3 * v1) + x2).toNatClampNeg) = 71 then (bI (f_Mv_runN n (u_Mv_note w1 (w1.1 82 ((3 * v1) + x2).toNatClampNeg)) (w1.1 81 v1.toNatClampNeg) (1 : Int32) (x3 - ((u_Mv_note w1 (w1.1 82 ((3 * v1) + x2).toNatClampNeg)).1 60 4)) (x4 + 1)) (fun v27 w27 => some (some (.int v27), w27))) else (some (some (.int (0 : Int32)), u_Mv_note w1 (w1.1 82 ((3 * v1) + x2).toNatClampNeg))))))) else (some (some (.int (0 : Int32)), w1))))
set_option maxHeartbeats 4000000 in
theorem c_Mv_runN {r : Option Value} {w' : MW} {d : Nat} : ∀ (n : Nat) (w : MW) (x1 : Int32) (x2 : Int32) (x3 : Int32) (x4 : Int32), f_Mv_runN n w x1 x2 x3 x4 = some (r, w') → Ct (d + n + 2) mMv_run [.ref 60, .int x1, .int x2, .int x3, .int x4] w r w' := by
  intro n
  induction n generalizing r w' with
  | zero =>
    intro w x1 x2 x3 x4 hf
    cases hf
  | succ n ih =>
    intro w x1 x2 x3 x4 hf
    rw [f_Mv_runN] at hf
    refine eMv_run ?_
    obtain ⟨v1, w1, e1, hf⟩ := bI_e hf
    refine bMv_run_0  (ct := c_Mv_ownerOf (d := d + (n + 1)) w x1 x2  e1) (k := ?_)
    refine bMv_run_5  (kt := fun q2 => ?_) (kf := fun q2 => ?_)
    · replace hf := ite_t q2 hf
      obtain ⟨rfl, rfl⟩ := ret_e hf
      exact bMv_run_20 
    · replace hf := ite_f q2 hf
      refine bMv_run_13  (kt := fun q4 => ?_) (kf := fun q4 => ?_)
      · replace hf := ite_t q4 hf
        obtain ⟨g5_0, hf⟩ := grd_e hf
        obtain ⟨g5_1, hf⟩ := grd_e hf
        obtain ⟨g5_2, hf⟩ := grd_e hf
        refine bMv_run_22 (h1 := (Or.inr (by decide))) (h2 := (vpb_ok g5_0)) (h3 := (Or.inr (by decide))) (h4 := (vpb_ok g5_1)) (ct := c_Mv_note (d := d + (n + 1) + 1) w1 (w1.1 82 ((3 * v1) + x2).toNatClampNeg) (fun z0 => vpb_ok (g5_2 z0))) (k := ?_)
        refine bMv_run_54  (k10 := fun q6_10 => ?_) (k11 := fun q6_11 => ?_) (k12 := fun q6_12 => ?_) (k20 := fun q6_20 => ?_) (k30 := fun q6_30 => ?_) (k40 := fun q6_40 => ?_) (k50 := fun q6_50 => ?_) (k51 := fun q6_51 => ?_) (k60 := fun q6_60 => ?_) (k70 := fun q6_70 => ?_) (k71 := fun q6_71 => ?_) (kd := fun q6_10 q6_11 q6_12 q6_20 q6_30 q6_40 q6_50 q6_51 q6_60 q6_70 q6_71 => ?_)
        · have hq := q6_10
          replace hf := ite_t hq hf
          obtain ⟨rfl, rfl⟩ := ret_e hf
          exact bMv_run_156 
        · have hq := q6_11
          replace hf := ite_f (by rw [hq]; decide) hf
          replace hf := ite_t hq hf
          obtain ⟨v8, w8, e8, hf⟩ := bI_e hf
          refine bMv_run_163  (ct := ih (u_Mv_note w1 (w1.1 82 ((3 * v1) + x2).toNatClampNeg)) ((u_Mv_note w1 (w1.1 82 ((3 * v1) + x2).toNatClampNeg)).1 60 3) (0 : Int32) x3 (x4 + 1)  e8) (k := ?_)
          obtain ⟨rfl, rfl⟩ := ret_e hf
          exact bMv_run_175 
        · have hq := q6_12
          replace hf := ite_f (by rw [hq]; decide) hf
          replace hf := ite_f (by rw [hq]; decide) hf
          replace hf := ite_t hq hf
          obtain ⟨v10, w10, e10, hf⟩ := bI_e hf
          refine bMv_run_178  (ct := ih (u_Mv_note w1 (w1.1 82 ((3 * v1) + x2).toNatClampNeg)) ((u_Mv_note w1 (w1.1 82 ((3 * v1) + x2).toNatClampNeg)).1 60 3) (1 : Int32) x3 (x4 + 1)  e10) (k := ?_)
          obtain ⟨v11, w11, e11, hf⟩ := bI_e hf
          refine bMv_run_190  (ct := ih w10 (w10.1 60 3) (0 : Int32) (x3 - (w10.1 60 4)) (x4 + 1)  e11) (k := ?_)
          obtain ⟨rfl, rfl⟩ := ret_e hf
          exact bMv_run_207 
        · have hq := q6_20
          replace hf := ite_f (by rw [hq]; decide) hf
          replace hf := ite_f (by rw [hq]; decide) hf
          replace hf := ite_f (by rw [hq]; decide) hf
          replace hf := ite_t hq hf
          obtain ⟨v13, w13, e13, hf⟩ := bI_e hf
          refine bMv_run_209  (ct := ih (u_Mv_note w1 (w1.1 82 ((3 * v1) + x2).toNatClampNeg)) (w1.1 81 v1.toNatClampNeg) (0 : Int32) x3 (x4 + 1)  e13) (k := ?_)
          obtain ⟨rfl, rfl⟩ := ret_e hf
          exact bMv_run_219 
        · have hq := q6_30
          replace hf := ite_f (by rw [hq]; decide) hf
          replace hf := ite_f (by rw [hq]; decide) hf
          replace hf := ite_f (by rw [hq]; decide) hf
          replace hf := ite_f (by rw [hq]; decide) hf
          replace hf := ite_t hq hf
          obtain ⟨v15, w15, e15, hf⟩ := bI_e hf
          refine bMv_run_225  (ct := ih (u_Mv_note w1 (w1.1 82 ((3 * v1) + x2).toNatClampNeg)) (w1.1 81 v1.toNatClampNeg) (1 : Int32) x3 (x4 + 1)  e15) (k := ?_)
          obtain ⟨rfl, rfl⟩ := ret_e hf
          exact bMv_run_235 
        · have hq := q6_40
          replace hf := ite_f (by rw [hq]; decide) hf
          replace hf := ite_f (by rw [hq]; decide) hf
          replace hf := ite_f (by rw [hq]; decide) hf
          replace hf := ite_f (by rw [hq]; decide) hf
          replace hf := ite_f (by rw [hq]; decide) hf
          replace hf := ite_t hq hf
          obtain ⟨v17, w17, e17, hf⟩ := bI_e hf
          refine bMv_run_238  (ct := ih (u_Mv_note w1 (w1.1 82 ((3 * v1) + x2).toNatClampNeg)) (w1.1 81 v1.toNatClampNeg) (1 : Int32) (x3 + 1) (x4 + 1)  e17) (k := ?_)
          obtain ⟨rfl, rfl⟩ := ret_e hf
          exact bMv_run_250 
        · have hq := q6_50
          replace hf := ite_f (by rw [hq]; decide) hf
          replace hf := ite_f (by rw [hq]; decide) hf
          replace hf := ite_f (by rw [hq]; decide) hf
          replace hf := ite_f (by rw [hq]; decide) hf
          replace hf := ite_f (by rw [hq]; decide) hf
          replace hf := ite_f (by rw [hq]; decide) hf
          replace hf := ite_t hq hf
          obtain ⟨v19, w19, e19, hf⟩ := bI_e hf
          refine bMv_run_251  (ct := ih (u_Mv_note w1 (w1.1 82 ((3 * v1) + x2).toNatClampNeg)) (w1.1 81 v1.toNatClampNeg) (2 : Int32) x3 (x4 + 1)  e19) (k := ?_)
          obtain ⟨rfl, rfl⟩ := ret_e hf
          exact bMv_run_261 
        · have hq := q6_51
          replace hf := ite_f (by rw [hq]; decide) hf
          replace hf := ite_f (by rw [hq]; decide) hf
          replace hf := ite_f (by rw [hq]; decide) hf
          replace hf := ite_f (by rw [hq]; decide) hf
          replace hf := ite_f (by rw [hq]; decide) hf
          replace hf := ite_f (by rw [hq]; decide) hf
          replace hf := ite_f (by rw [hq]; decide) hf
          replace hf := ite_t hq hf
          obtain ⟨v21, w21, e21, hf⟩ := bI_e hf
          refine bMv_run_263  (ct := ih (u_Mv_note w1 (w1.1 82 ((3 * v1) + x2).toNatClampNeg)) (w1.1 81 v1.toNatClampNeg) (0 : Int32) x3 (x4 + 1)  e21) (k := ?_)
          obtain ⟨rfl, rfl⟩ := ret_e hf
          exact bMv_run_273 
        · have hq := q6_60
          replace hf := ite_f (by rw [hq]; decide) hf
          replace hf := ite_f (by rw [hq]; decide) hf
          replace hf := ite_f (by rw [hq]; decide) hf
          replace hf := ite_f (by rw [hq]; decide) hf
          replace hf := ite_f (by rw [hq]; decide) hf
          replace hf := ite_f (by rw [hq]; decide) hf
          replace hf := ite_f (by rw [hq]; decide) hf
          replace hf := ite_f (by rw [hq]; decide) hf
          replace hf := ite_t hq hf
          obtain ⟨v23, w23, e23, hf⟩ := bI_e hf
          refine bMv_run_279  (ct := ih (u_Mv_note w1 (w1.1 82 ((3 * v1) + x2).toNatClampNeg)) (w1.1 81 v1.toNatClampNeg) (2 : Int32) x3 (x4 + 1)  e23) (k := ?_)
          obtain ⟨rfl, rfl⟩ := ret_e hf
          exact bMv_run_289 
        · have hq := q6_70
          replace hf := ite_f (by rw [hq]; decide) hf
          replace hf := ite_f (by rw [hq]; decide) hf
          replace hf := ite_f (by rw [hq]; decide) hf
          replace hf := ite_f (by rw [hq]; decide) hf
          replace hf := ite_f (by rw [hq]; decide) hf
          replace hf := ite_f (by rw [hq]; decide) hf
          replace hf := ite_f (by rw [hq]; decide) hf
          replace hf := ite_f (by rw [hq]; decide) hf
          replace hf := ite_f (by rw [hq]; decide) hf
          replace hf := ite_t hq hf
          obtain ⟨v25, w25, e25, hf⟩ := bI_e hf
          refine bMv_run_292  (ct := ih (u_Mv_note w1 (w1.1 82 ((3 * v1) + x2).toNatClampNeg)) (w1.1 81 v1.toNatClampNeg) (0 : Int32) x3 (x4 + 1)  e25) (k := ?_)
          obtain ⟨rfl, rfl⟩ := ret_e hf
          exact bMv_run_302 
        · have hq := q6_71
          replace hf := ite_f (by rw [hq]; decide) hf
          replace hf := ite_f (by rw [hq]; decide) hf
          replace hf := ite_f (by rw [hq]; decide) hf
          replace hf := ite_f (by rw [hq]; decide) hf
          replace hf := ite_f (by rw [hq]; decide) hf
          replace hf := ite_f (by rw [hq]; decide) hf
          replace hf := ite_f (by rw [hq]; decide) hf
          replace hf := ite_f (by rw [hq]; decide) hf
          replace hf := ite_f (by rw [hq]; decide) hf
          replace hf := ite_f (by rw [hq]; decide) hf
          replace hf := ite_t hq hf
          obtain ⟨v27, w27, e27, hf⟩ := bI_e hf
          refine bMv_run_305  (ct := ih (u_Mv_note w1 (w1.1 82 ((3 * v1) + x2).toNatClampNeg)) (w1.1 81 v1.toNatClampNeg) (1 : Int32) (x3 - ((u_Mv_note w1 (w1.1 82 ((3 * v1) + x2).toNatClampNeg)).1 60 4)) (x4 + 1)  e27) (k := ?_)
          obtain ⟨rfl, rfl⟩ := ret_e hf
          exact bMv_run_320 
        · replace hf := ite_f q6_10 hf
          replace hf := ite_f q6_11 hf
          replace hf := ite_f q6_12 hf
          replace hf := ite_f q6_20 hf
          replace hf := ite_f q6_30 hf
          replace hf := ite_f q6_40 hf
          replace hf := ite_f q6_50 hf
          replace hf := ite_f q6_51 hf
          replace hf := ite_f q6_60 hf
          replace hf := ite_f q6_70 hf
          replace hf := ite_f q6_71 hf
          obtain ⟨rfl, rfl⟩ := ret_e hf
          exact bMv_run_321 
      · replace hf := ite_f q4 hf
        obtain ⟨rfl, rfl⟩ := ret_e hf
        exact bMv_run_20 
def f_Mv_run (w : MW) (x1 : Int32) (x2 : Int32) (x3 : Int32) (x4 : Int32) : Option RT := f_Mv_runN 60 w x1 x2 x3 x4
theorem c_Mv_run {d : Nat} {r : Option Value} {w' : MW} (w : MW) (x1 : Int32) (x2 : Int32) (x3 : Int32) (x4 : Int32) (hf : f_Mv_run w x1 x2 x3 x4 = some (r, w')) : Ct (d + 62) mMv_run [.ref 60, .int x1, .int x2, .int x3, .int x4] w r w' := c_Mv_runN 60 w x1 x2 x3 x4 hf
-- X_status
def f_X_status (w : MW) (x1 : Int32) : Option RT := if x1 ≤ 10 then (if x1 = 0 then (some (some (.int (w.1 1 1)), w)) else if x1 = 1 then (some (some (.int (w.1 1 3)), w)) else if x1 = 2 then (bI (f_Ct_meetings w 1) (fun v5 w5 => some (some (.int v5), w5))) else if x1 = 3 then (bI (f_Ct_allHits w 1) (fun v7 w7 => some (some (.int v7), w7))) else if x1 = 4 then (bI (f_Ct_believers w 1) (fun v9 w9 => some (some (.int v9), w9))) else if x1 = 5 then (some (some (.int (w.1 1 4)), w)) else if x1 = 6 then (some (some (.int (w.1 60 1)), w)) else (some (some (.int (-1 : Int32)), w))) else (if 17 < x1 then (if x1 = 0 then (some (some (.int (w.1 1 1)), w)) else if x1 = 1 then (some (some (.int (w.1 1 3)), w)) else if x1 = 2 then (bI (f_Ct_meetings w 1) (fun v18 w18 => some (some (.int v18), w18))) else if x1 = 3 then (bI (f_Ct_allHits w 1) (fun v20 w20 => some (some (.int v20), w20))) else if x1 = 4 then (bI (f_Ct_believers w 1) (fun v22 w22 => some (some (.int v22), w22))) else if x1 = 5 then (some (some (.int (w.1 1 4)), w)) else if x1 = 6 then (some (some (.int (w.1 60 1)), w)) else (some (some (.int (-1 : Int32)), w))) else (grd (vpb (x1 - 10) 8 = true) (some (some (.int (w.1 51 (x1 - 10).toNatClampNeg)), w))))
set_option maxHeartbeats 4000000 in
theorem c_X_status {d : Nat} {r : Option Value} {w' : MW} (w : MW) (x1 : Int32) (hf : f_X_status w x1 = some (r, w')) : Ct (d + 2) mX_status [.ref 0, .int x1] w r w' := by
  refine eX_status ?_
  unfold f_X_status at hf
  refine bX_status_0 (kt := fun q1 => ?_) (kf := fun q1 => ?_)
  · replace hf := ite_t q1 hf
    refine bX_status_22 (k0 := fun q2_0 => ?_) (k1 := fun q2_1 => ?_) (k2 := fun q2_2 => ?_) (k3 := fun q2_3 => ?_) (k4 := fun q2_4 => ?_) (k5 := fun q2_5 => ?_) (k6 := fun q2_6 => ?_) (kd := fun q2_0 q2_1 q2_2 q2_3 q2_4 q2_5 q2_6 => ?_)
    · have hq := q2_0
      replace hf := ite_t hq hf
      obtain ⟨rfl, rfl⟩ := ret_e hf
      exact bX_status_64 (y1 := 1)
    · have hq := q2_1
      replace hf := ite_f (by rw [hq]; decide) hf
      replace hf := ite_t hq hf
      obtain ⟨rfl, rfl⟩ := ret_e hf
      exact bX_status_72 (y1 := 1)
    · have hq := q2_2
      replace hf := ite_f (by rw [hq]; decide) hf
      replace hf := ite_f (by rw [hq]; decide) hf
      replace hf := ite_t hq hf
      obtain ⟨v5, w5, e5, hf⟩ := bI_e hf
      refine bX_status_80 (y1 := 1) (ct := c_Ct_meetings (d := d) w 1 ct1 e5) (k := ?_)
      obtain ⟨rfl, rfl⟩ := ret_e hf
      exact bX_status_87 
    · have hq := q2_3
      replace hf := ite_f (by rw [hq]; decide) hf
      replace hf := ite_f (by rw [hq]; decide) hf
      replace hf := ite_f (by rw [hq]; decide) hf
      replace hf := ite_t hq hf
      obtain ⟨v7, w7, e7, hf⟩ := bI_e hf
      refine bX_status_88 (y1 := 1) (ct := c_Ct_allHits (d := d + 1) w 1 ct1 e7) (k := ?_)
      obtain ⟨rfl, rfl⟩ := ret_e hf
      exact bX_status_95 
    · have hq := q2_4
      replace hf := ite_f (by rw [hq]; decide) hf
      replace hf := ite_f (by rw [hq]; decide) hf
      replace hf := ite_f (by rw [hq]; decide) hf
      replace hf := ite_f (by rw [hq]; decide) hf
      replace hf := ite_t hq hf
      obtain ⟨v9, w9, e9, hf⟩ := bI_e hf
      refine bX_status_96 (y1 := 1) (ct := c_Ct_believers (d := d + 1) w 1 ct1 e9) (k := ?_)
      obtain ⟨rfl, rfl⟩ := ret_e hf
      exact bX_status_103 
    · have hq := q2_5
      replace hf := ite_f (by rw [hq]; decide) hf
      replace hf := ite_f (by rw [hq]; decide) hf
      replace hf := ite_f (by rw [hq]; decide) hf
      replace hf := ite_f (by rw [hq]; decide) hf
      replace hf := ite_f (by rw [hq]; decide) hf
      replace hf := ite_t hq hf
      obtain ⟨rfl, rfl⟩ := ret_e hf
      exact bX_status_104 (y1 := 1)
    · have hq := q2_6
      replace hf := ite_f (by rw [hq]; decide) hf
      replace hf := ite_f (by rw [hq]; decide) hf
      replace hf := ite_f (by rw [hq]; decide) hf
      replace hf := ite_f (by rw [hq]; decide) hf
      replace hf := ite_f (by rw [hq]; decide) hf
      replace hf := ite_f (by rw [hq]; decide) hf
      replace hf := ite_t hq hf
      obtain ⟨rfl, rfl⟩ := ret_e hf
      exact bX_status_112 (y1 := 60)
    · replace hf := ite_f q2_0 hf
      replace hf := ite_f q2_1 hf
      replace hf := ite_f q2_2 hf
      replace hf := ite_f q2_3 hf
      replace hf := ite_f q2_4 hf
      replace hf := ite_f q2_5 hf
      replace hf := ite_f q2_6 hf
      obtain ⟨rfl, rfl⟩ := ret_e hf
      exact bX_status_120 
  · replace hf := ite_f q1 hf
    refine bX_status_6 (kt := fun q14 => ?_) (kf := fun q14 => ?_)
    · replace hf := ite_t q14 hf
      refine bX_status_22 (k0 := fun q15_0 => ?_) (k1 := fun q15_1 => ?_) (k2 := fun q15_2 => ?_) (k3 := fun q15_3 => ?_) (k4 := fun q15_4 => ?_) (k5 := fun q15_5 => ?_) (k6 := fun q15_6 => ?_) (kd := fun q15_0 q15_1 q15_2 q15_3 q15_4 q15_5 q15_6 => ?_)
      · have hq := q15_0
        replace hf := ite_t hq hf
        obtain ⟨rfl, rfl⟩ := ret_e hf
        exact bX_status_64 (y1 := 1)
      · have hq := q15_1
        replace hf := ite_f (by rw [hq]; decide) hf
        replace hf := ite_t hq hf
        obtain ⟨rfl, rfl⟩ := ret_e hf
        exact bX_status_72 (y1 := 1)
      · have hq := q15_2
        replace hf := ite_f (by rw [hq]; decide) hf
        replace hf := ite_f (by rw [hq]; decide) hf
        replace hf := ite_t hq hf
        obtain ⟨v18, w18, e18, hf⟩ := bI_e hf
        refine bX_status_80 (y1 := 1) (ct := c_Ct_meetings (d := d) w 1 ct1 e18) (k := ?_)
        obtain ⟨rfl, rfl⟩ := ret_e hf
        exact bX_status_87 
      · have hq := q15_3
        replace hf := ite_f (by rw [hq]; decide) hf
        replace hf := ite_f (by rw [hq]; decide) hf
        replace hf := ite_f (by rw [hq]; decide) hf
        replace hf := ite_t hq hf
        obtain ⟨v20, w20, e20, hf⟩ := bI_e hf
        refine bX_status_88 (y1 := 1) (ct := c_Ct_allHits (d := d + 1) w 1 ct1 e20) (k := ?_)
        obtain ⟨rfl, rfl⟩ := ret_e hf
        exact bX_status_95 
      · have hq := q15_4
        replace hf := ite_f (by rw [hq]; decide) hf
        replace hf := ite_f (by rw [hq]; decide) hf
        replace hf := ite_f (by rw [hq]; decide) hf
        replace hf := ite_f (by rw [hq]; decide) hf
        replace hf := ite_t hq hf
        obtain ⟨v22, w22, e22, hf⟩ := bI_e hf
        refine bX_status_96 (y1 := 1) (ct := c_Ct_believers (d := d + 1) w 1 ct1 e22) (k := ?_)
        obtain ⟨rfl, rfl⟩ := ret_e hf
        exact bX_status_103 
      · have hq := q15_5
        replace hf := ite_f (by rw [hq]; decide) hf
        replace hf := ite_f (by rw [hq]; decide) hf
        replace hf := ite_f (by rw [hq]; decide) hf
        replace hf := ite_f (by rw [hq]; decide) hf
        replace hf := ite_f (by rw [hq]; decide) hf
        replace hf := ite_t hq hf
        obtain ⟨rfl, rfl⟩ := ret_e hf
        exact bX_status_104 (y1 := 1)
      · have hq := q15_6
        replace hf := ite_f (by rw [hq]; decide) hf
        replace hf := ite_f (by rw [hq]; decide) hf
        replace hf := ite_f (by rw [hq]; decide) hf
        replace hf := ite_f (by rw [hq]; decide) hf
        replace hf := ite_f (by rw [hq]; decide) hf
        replace hf := ite_f (by rw [hq]; decide) hf
        replace hf := ite_t hq hf
        obtain ⟨rfl, rfl⟩ := ret_e hf
        exact bX_status_112 (y1 := 60)
      · replace hf := ite_f q15_0 hf
        replace hf := ite_f q15_1 hf
        replace hf := ite_f q15_2 hf
        replace hf := ite_f q15_3 hf
        replace hf := ite_f q15_4 hf
        replace hf := ite_f q15_5 hf
        replace hf := ite_f q15_6 hf
        obtain ⟨rfl, rfl⟩ := ret_e hf
        exact bX_status_120 
    · replace hf := ite_f q14 hf
      obtain ⟨g27_0, hf⟩ := grd_e hf
      obtain ⟨rfl, rfl⟩ := ret_e hf
      exact bX_status_12 (y1 := 51) (h3 := (vpb_ok g27_0))
-- M_hisOf
def f_M_hisOf (w : MW) (x1 : Int32) : Option RT := grd (vpb x1 8 = true) (bI (f_M_his w (w.1 66 x1.toNatClampNeg) (w.1 67 x1.toNatClampNeg) (w.1 68 x1.toNatClampNeg)) (fun v1 w1 => some (some (.int v1), w1)))
set_option maxHeartbeats 4000000 in
theorem c_M_hisOf {d : Nat} {r : Option Value} {w' : MW} (w : MW) (x1 : Int32) (hf : f_M_hisOf w x1 = some (r, w')) : Ct (d + 1) mM_hisOf [.ref 62, .int x1] w r w' := by
  refine eM_hisOf ?_
  unfold f_M_hisOf at hf
  obtain ⟨g1_0, hf⟩ := grd_e hf
  obtain ⟨v1, w1, e1, hf⟩ := bI_e hf
  refine bM_hisOf_0 (y1 := 66) (h3 := (vpb_ok g1_0)) (y2 := 67) (h6 := (vpb_ok g1_0)) (y3 := 68) (h9 := (vpb_ok g1_0)) (ct := c_M_his (d := d) w (w.1 66 x1.toNatClampNeg) (w.1 67 x1.toNatClampNeg) (w.1 68 x1.toNatClampNeg) e1) (k := ?_)
  obtain ⟨rfl, rfl⟩ := ret_e hf
  exact bM_hisOf_22 
-- M_man
def f_M_man (w : MW) (x1 : Int32) (x2 : Int32) (x3 : Int32) : Option RT := if (v_M_within w x1 (0 : Int32) (6 : Int32)) = 0 then (some (some (.int (v_M_no w (-1 : Int32))), u_M_no w (-1 : Int32))) else (if (v_M_within w x2 (0 : Int32) (9 : Int32)) = 0 then (some (some (.int (v_M_no w (-6 : Int32))), u_M_no w (-6 : Int32))) else (if (v_M_within w x3 (0 : Int32) (2 : Int32)) = 0 then (some (some (.int (v_M_no w (-6 : Int32))), u_M_no w (-6 : Int32))) else (if (w.1 62 3) = 8 then (some (some (.int (v_M_no w (-7 : Int32))), u_M_no w (-7 : Int32))) else (bI (f_M_newMan w x1 x2 x3) (fun v10 w10 => some (some (.int v10), w10))))))
set_option maxHeartbeats 4000000 in
theorem c_M_man {d : Nat} {r : Option Value} {w' : MW} (w : MW) (x1 : Int32) (x2 : Int32) (x3 : Int32) (hf : f_M_man w x1 x2 x3 = some (r, w')) : Ct (d + 1) mM_man [.ref 62, .int x1, .int x2, .int x3] w r w' := by
  refine eM_man ?_
  unfold f_M_man at hf
  refine bM_man_0 (ct := c_M_within (d := d) w x1 (0 : Int32) (6 : Int32)) (k := ?_)
  refine bM_man_7 (kt := fun q2 => ?_) (kf := fun q2 => ?_)
  · replace hf := ite_f q2 hf
    refine bM_man_16 (ct := c_M_within (d := d) w x2 (0 : Int32) (9 : Int32)) (k := ?_)
    refine bM_man_23 (kt := fun q4 => ?_) (kf := fun q4 => ?_)
    · replace hf := ite_t q4 hf
      refine bM_man_35 (ct := c_M_no (d := d) w (-6 : Int32) (vpd (i := (-(-6 : Int32))) (n := 8) (by decide))) (k := ?_)
      obtain ⟨rfl, rfl⟩ := ret_e hf
      exact bM_man_41 
    · replace hf := ite_f q4 hf
      refine bM_man_26 (ct := c_M_within (d := d) w x3 (0 : Int32) (2 : Int32)) (k := ?_)
      refine bM_man_32 (kt := fun q8 => ?_) (kf := fun q8 => ?_)
      · replace hf := ite_f q8 hf
        refine bM_man_42 (kt := fun q9 => ?_) (kf := fun q9 => ?_)
        · replace hf := ite_f q9 hf
          obtain ⟨v10, w10, e10, hf⟩ := bI_e hf
          refine bM_man_60 (ct := c_M_newMan (d := d) w x1 x2 x3 e10) (k := ?_)
          obtain ⟨rfl, rfl⟩ := ret_e hf
          exact bM_man_67 
        · replace hf := ite_t q9 hf
          refine bM_man_51 (ct := c_M_no (d := d) w (-7 : Int32) (vpd (i := (-(-7 : Int32))) (n := 8) (by decide))) (k := ?_)
          refine bM_man_57 (k := ?_)
          obtain ⟨rfl, rfl⟩ := ret_e hf
          exact bM_man_67 
      · replace hf := ite_t q8 hf
        refine bM_man_35 (ct := c_M_no (d := d) w (-6 : Int32) (vpd (i := (-(-6 : Int32))) (n := 8) (by decide))) (k := ?_)
        obtain ⟨rfl, rfl⟩ := ret_e hf
        exact bM_man_41 
  · replace hf := ite_t q2 hf
    refine bM_man_10 (ct := c_M_no (d := d) w (-1 : Int32) (vpd (i := (-(-1 : Int32))) (n := 8) (by decide))) (k := ?_)
    obtain ⟨rfl, rfl⟩ := ret_e hf
    exact bM_man_15 
-- M_manOf
def f_M_manOf (w : MW) (x1 : Int32) (x2 : Int32) : Option RT := if (v_M_isMan w x1) = 0 then (some (some (.int (v_M_no w (-5 : Int32))), u_M_no w (-5 : Int32))) else (if x2 = 0 then (grd (vpb x1 8 = true) (some (some (.int (w.1 66 x1.toNatClampNeg)), w))) else if x2 = 1 then (grd (vpb x1 8 = true) (some (some (.int (w.1 67 x1.toNatClampNeg)), w))) else if x2 = 2 then (grd (vpb x1 8 = true) (some (some (.int (w.1 68 x1.toNatClampNeg)), w))) else if x2 = 3 then (bI (f_M_hisOf w x1) (fun v7 w7 => bI (f_JI_bitCount w7 v7) (fun v8 w8 => some (some (.int v8), w8)))) else if x2 = 4 then (grd (vpb x1 8 = true) (some (some (.int (w.1 71 x1.toNatClampNeg)), w))) else if x2 = 5 then (grd (vpb x1 8 = true) (some (some (.int (w.1 70 x1.toNatClampNeg)), w))) else (some (some (.int (v_M_no w (-5 : Int32))), u_M_no w (-5 : Int32))))
set_option maxHeartbeats 4000000 in
theorem c_M_manOf {d : Nat} {r : Option Value} {w' : MW} (w : MW) (x1 : Int32) (x2 : Int32) (hf : f_M_manOf w x1 x2 = some (r, w')) : Ct (d + 2) mM_manOf [.ref 62, .int x1, .int x2] w r w' := by
  refine eM_manOf ?_
  unfold f_M_manOf at hf
  refine bM_manOf_0 (ct := c_M_isMan (d := d) w x1) (k := ?_)
  refine bM_manOf_5 (kt := fun q2 => ?_) (kf := fun q2 => ?_)
  · replace hf := ite_f q2 hf
    refine bM_manOf_15 (k0 := fun q3_0 => ?_) (k1 := fun q3_1 => ?_) (k2 := fun q3_2 => ?_) (k3 := fun q3_3 => ?_) (k4 := fun q3_4 => ?_) (k5 := fun q3_5 => ?_) (kd := fun q3_0 q3_1 q3_2 q3_3 q3_4 q3_5 => ?_)
    · have hq := q3_0
      replace hf := ite_t hq hf
      obtain ⟨g4_0, hf⟩ := grd_e hf
      obtain ⟨rfl, rfl⟩ := ret_e hf
      exact bM_manOf_56 (y1 := 66) (h3 := (vpb_ok g4_0))
    · have hq := q3_1
      replace hf := ite_f (by rw [hq]; decide) hf
      replace hf := ite_t hq hf
      obtain ⟨g5_0, hf⟩ := grd_e hf
      obtain ⟨rfl, rfl⟩ := ret_e hf
      exact bM_manOf_63 (y1 := 67) (h3 := (vpb_ok g5_0))
    · have hq := q3_2
      replace hf := ite_f (by rw [hq]; decide) hf
      replace hf := ite_f (by rw [hq]; decide) hf
      replace hf := ite_t hq hf
      obtain ⟨g6_0, hf⟩ := grd_e hf
      obtain ⟨rfl, rfl⟩ := ret_e hf
      exact bM_manOf_70 (y1 := 68) (h3 := (vpb_ok g6_0))
    · have hq := q3_3
      replace hf := ite_f (by rw [hq]; decide) hf
      replace hf := ite_f (by rw [hq]; decide) hf
      replace hf := ite_f (by rw [hq]; decide) hf
      replace hf := ite_t hq hf
      obtain ⟨v7, w7, e7, hf⟩ := bI_e hf
      refine bM_manOf_77 (ct := c_M_hisOf (d := d) w x1 e7) (k := ?_)
      obtain ⟨v8, w8, e8, hf⟩ := bI_e hf
      refine bM_manOf_82 (ct := c_JI_bitCount (d := d + 1) w7 v7 e8) (k := ?_)
      obtain ⟨rfl, rfl⟩ := ret_e hf
      exact bM_manOf_85 
    · have hq := q3_4
      replace hf := ite_f (by rw [hq]; decide) hf
      replace hf := ite_f (by rw [hq]; decide) hf
      replace hf := ite_f (by rw [hq]; decide) hf
      replace hf := ite_f (by rw [hq]; decide) hf
      replace hf := ite_t hq hf
      obtain ⟨g10_0, hf⟩ := grd_e hf
      obtain ⟨rfl, rfl⟩ := ret_e hf
      exact bM_manOf_86 (y1 := 71) (h3 := (vpb_ok g10_0))
    · have hq := q3_5
      replace hf := ite_f (by rw [hq]; decide) hf
      replace hf := ite_f (by rw [hq]; decide) hf
      replace hf := ite_f (by rw [hq]; decide) hf
      replace hf := ite_f (by rw [hq]; decide) hf
      replace hf := ite_f (by rw [hq]; decide) hf
      replace hf := ite_t hq hf
      obtain ⟨g11_0, hf⟩ := grd_e hf
      obtain ⟨rfl, rfl⟩ := ret_e hf
      exact bM_manOf_93 (y1 := 70) (h3 := (vpb_ok g11_0))
    · replace hf := ite_f q3_0 hf
      replace hf := ite_f q3_1 hf
      replace hf := ite_f q3_2 hf
      replace hf := ite_f q3_3 hf
      replace hf := ite_f q3_4 hf
      replace hf := ite_f q3_5 hf
      refine bM_manOf_100 (ct := c_M_no (d := d + 1) w (-5 : Int32) (vpd (i := (-(-5 : Int32))) (n := 8) (by decide))) (k := ?_)
      obtain ⟨rfl, rfl⟩ := ret_e hf
      exact bM_manOf_106 
  · replace hf := ite_t q2 hf
    refine bM_manOf_8 (ct := c_M_no (d := d + 1) w (-5 : Int32) (vpd (i := (-(-5 : Int32))) (n := 8) (by decide))) (k := ?_)
    obtain ⟨rfl, rfl⟩ := ret_e hf
    exact bM_manOf_14 
-- M_say
def f_M_say_42 : Nat → MW → Int32 → Int32 → Int32 → Option RT
  | 0, _, _, _, _ => none
  | n + 1, w, x1, x2, x4 => if x2 ≤ x4 then (some (some (.int x2), w)) else (grd (vpb ((160 * x1) + x4) 1280 = true) (grd (vpb x4 30 = true) (f_M_say_42 n (setI w 72 x4.toNatClampNeg (v_M_told w x1 x4)) x1 x2 (x4 + 1))))
set_option maxHeartbeats 4000000 in
theorem r_M_say_42 {d : Nat} {r : Option Value} {w' : MW} : ∀ (n : Nat) (w : MW) (x1 : Int32) (x2 : Int32) (x4 : Int32), f_M_say_42 n w x1 x2 x4 = some (r, w') → Rn (d + 3) mM_say 42 [some (.ref 62), some (.int x1), some (.int x2), none, some (.int x4)] [] w r w' := by
  intro n
  induction n with
  | zero =>
    intro w x1 x2 x4 hf
    cases hf
  | succ n ih =>
    intro w x1 x2 x4 hf
    rw [f_M_say_42] at hf
    refine bM_say_42 (kt := fun q1 => ?_) (kf := fun q1 => ?_)
    · replace hf := ite_t q1 hf
      obtain ⟨rfl, rfl⟩ := ret_e hf
      exact bM_say_68 
    · replace hf := ite_f q1 hf
      obtain ⟨g3_0, hf⟩ := grd_e hf
      refine bM_say_48 (y1 := 72) (ct := c_M_told (d := d + 2) w x1 x4 (vpb_ok g3_0)) (k := ?_)
      obtain ⟨g4_0, hf⟩ := grd_e hf
      refine bM_say_61 (h2 := (vpb_ok g4_0)) (k := ?_)
      exact ih (setI w 72 x4.toNatClampNeg (v_M_told w x1 x4)) x1 x2 (x4 + 1) hf
def f_M_say (w : MW) (x1 : Int32) (x2 : Int32) : Option RT := grd (0 ≤ (v_M_noRow w x1) → 0 ≤ x2 → vpb x1 8 = true) (if 0 ≤ (v_M_noSaying w x1 x2) then (bI (f_M_wrong w x1 x2) (fun v3 w3 => if v3 = (-1) then (f_M_say_42 FU (setI w3 62 10 x2) x1 x2 (0 : Int32)) else (some (some (.int (v_M_no w3 (-6 : Int32))), u_M_no w3 (-6 : Int32))))) else (some (some (.int (v_M_no w (v_M_noSaying w x1 x2))), u_M_no w (v_M_noSaying w x1 x2))))
set_option maxHeartbeats 4000000 in
theorem c_M_say {d : Nat} {r : Option Value} {w' : MW} (w : MW) (x1 : Int32) (x2 : Int32) (hf : f_M_say w x1 x2 = some (r, w')) : Ct (d + 3) mM_say [.ref 62, .int x1, .int x2] w r w' := by
  refine eM_say ?_
  unfold f_M_say at hf
  obtain ⟨g1_0, hf⟩ := grd_e hf
  refine bM_say_0 (ct := c_M_noSaying (d := d) w x1 x2 (fun z0 z1 => vpb_ok (g1_0 z0 z1))) (k := ?_)
  refine bM_say_6 (kt := fun q2 => ?_) (kf := fun q2 => ?_)
  · replace hf := ite_t q2 hf
    obtain ⟨v3, w3, e3, hf⟩ := bI_e hf
    refine bM_say_17 (ct := c_M_wrong (d := d) w x1 x2 e3) (k := ?_)
    refine bM_say_23 (kt := fun q4 => ?_) (kf := fun q4 => ?_)
    · replace hf := ite_t q4 hf
      refine bM_say_34 (k := ?_)
      exact r_M_say_42 FU (setI w3 62 10 x2) x1 x2 (0 : Int32) hf
    · replace hf := ite_f q4 hf
      refine bM_say_27 (ct := c_M_no (d := d + 2) w3 (-6 : Int32) (vpd (i := (-(-6 : Int32))) (n := 8) (by decide))) (k := ?_)
      obtain ⟨rfl, rfl⟩ := ret_e hf
      exact bM_say_33 
  · replace hf := ite_f q2 hf
    refine bM_say_11 (ct := c_M_no (d := d + 2) w (v_M_noSaying w x1 x2) (no8_M_noSaying _ _ _)) (k := ?_)
    obtain ⟨rfl, rfl⟩ := ret_e hf
    exact bM_say_16 
-- M_two
def f_M_two (w : MW) (x1 : Int32) : Option RT := bI (f_M_number w (0 : Int32) (0 : Int32) ((w.1 62 3) - 1)) (fun v1 w1 => if v1 = 0 then (some (some (.int (0 : Int32)), w1)) else (bI (f_M_number w1 (1 : Int32) (0 : Int32) ((w1.1 62 3) - 1)) (fun v3 w3 => if v3 = 0 then (some (some (.int (0 : Int32)), w3)) else (if (w3.1 80 (0 : Int32).toNatClampNeg) = (w3.1 80 (1 : Int32).toNatClampNeg) then (bI (f_M_stands w3 ((w1.1 62 24) + 1) (0 : Int32)) (fun v8 w8 => if v8 = 0 then (some (some (.int (0 : Int32)), w8)) else (grd (vpb (w8.1 80 (0 : Int32).toNatClampNeg) 8 = true) (grd (x1 = 0 → vpb (w8.1 80 (1 : Int32).toNatClampNeg) 8 = true) (grd (¬ x1 = 0 → vpb (w8.1 80 (1 : Int32).toNatClampNeg) 8 = true) (some (some (.int (1 : Int32)), u_M_meeting w8 (w8.1 80 (0 : Int32).toNatClampNeg) (w8.1 80 (1 : Int32).toNatClampNeg) x1))))))) else (bI (f_M_stands w3 ((w1.1 62 24) + 1) (1 : Int32)) (fun v14 w14 => if v14 = 0 then (some (some (.int (0 : Int32)), w14)) else (grd (vpb (w14.1 80 (0 : Int32).toNatClampNeg) 8 = true) (grd (x1 = 0 → vpb (w14.1 80 (1 : Int32).toNatClampNeg) 8 = true) (grd (¬ x1 = 0 → vpb (w14.1 80 (1 : Int32).toNatClampNeg) 8 = true) (some (some (.int (1 : Int32)), u_M_meeting w14 (w14.1 80 (0 : Int32).toNatClampNeg) (w14.1 80 (1 : Int32).toNatClampNeg) x1)))))))))))
set_option maxHeartbeats 4000000 in
theorem c_M_two {d : Nat} {r : Option Value} {w' : MW} (w : MW) (x1 : Int32) (hf : f_M_two w x1 = some (r, w')) : Ct (d + 3) mM_two [.ref 62, .int x1] w r w' := by
  refine eM_two ?_
  unfold f_M_two at hf
  obtain ⟨v1, w1, e1, hf⟩ := bI_e hf
  refine bM_two_0 (ct := c_M_number (d := d) w (0 : Int32) (0 : Int32) ((w.1 62 3) - 1) e1) (k := ?_)
  refine bM_two_12 (kt := fun q2 => ?_) (kf := fun q2 => ?_)
  · replace hf := ite_f q2 hf
    obtain ⟨v3, w3, e3, hf⟩ := bI_e hf
    refine bM_two_17 (ct := c_M_number (d := d) w1 (1 : Int32) (0 : Int32) ((w1.1 62 3) - 1) e3) (k := ?_)
    refine bM_two_36 (kt := fun q4 => ?_) (kf := fun q4 => ?_)
    · replace hf := ite_t q4 hf
      obtain ⟨rfl, rfl⟩ := ret_e hf
      exact bM_two_67 
    · replace hf := ite_f q4 hf
      refine bM_two_39 (y1 := 80) (h3 := (vpd (i := (0 : Int32)) (n := 3) (by decide))) (y2 := 80) (h6 := (vpd (i := (1 : Int32)) (n := 3) (by decide))) (kt := fun q6 => ?_) (kf := fun q6 => ?_)
      · replace hf := ite_t q6 hf
        refine bM_two_60 (k := ?_)
        obtain ⟨v8, w8, e8, hf⟩ := bI_e hf
        refine bM_two_61 (ct := c_M_stands (d := d + 2) w3 ((w1.1 62 24) + 1) (0 : Int32) e8) (k := ?_)
        refine bM_two_64 (kt := fun q9 => ?_) (kf := fun q9 => ?_)
        · replace hf := ite_f q9 hf
          obtain ⟨g10_0, hf⟩ := grd_e hf
          obtain ⟨g10_1, hf⟩ := grd_e hf
          obtain ⟨g10_2, hf⟩ := grd_e hf
          refine bM_two_69 (y1 := 80) (h3 := (vpd (i := (0 : Int32)) (n := 3) (by decide))) (y2 := 80) (h6 := (vpd (i := (1 : Int32)) (n := 3) (by decide))) (ct := c_M_meeting (d := d + 2) w8 (w8.1 80 (0 : Int32).toNatClampNeg) (w8.1 80 (1 : Int32).toNatClampNeg) x1 (vpb_ok g10_0) (fun z0 => vpb_ok (g10_1 z0)) (fun z0 => vpb_ok (g10_2 z0))) (k := ?_)
          obtain ⟨rfl, rfl⟩ := ret_e hf
          exact bM_two_86 
        · replace hf := ite_t q9 hf
          obtain ⟨rfl, rfl⟩ := ret_e hf
          exact bM_two_67 
      · replace hf := ite_f q6 hf
        refine bM_two_56 (k := ?_)
        obtain ⟨v14, w14, e14, hf⟩ := bI_e hf
        refine bM_two_61 (ct := c_M_stands (d := d + 2) w3 ((w1.1 62 24) + 1) (1 : Int32) e14) (k := ?_)
        refine bM_two_64 (kt := fun q15 => ?_) (kf := fun q15 => ?_)
        · replace hf := ite_f q15 hf
          obtain ⟨g16_0, hf⟩ := grd_e hf
          obtain ⟨g16_1, hf⟩ := grd_e hf
          obtain ⟨g16_2, hf⟩ := grd_e hf
          refine bM_two_69 (y1 := 80) (h3 := (vpd (i := (0 : Int32)) (n := 3) (by decide))) (y2 := 80) (h6 := (vpd (i := (1 : Int32)) (n := 3) (by decide))) (ct := c_M_meeting (d := d + 2) w14 (w14.1 80 (0 : Int32).toNatClampNeg) (w14.1 80 (1 : Int32).toNatClampNeg) x1 (vpb_ok g16_0) (fun z0 => vpb_ok (g16_1 z0)) (fun z0 => vpb_ok (g16_2 z0))) (k := ?_)
          obtain ⟨rfl, rfl⟩ := ret_e hf
          exact bM_two_86 
        · replace hf := ite_t q15 hf
          obtain ⟨rfl, rfl⟩ := ret_e hf
          exact bM_two_67 
  · replace hf := ite_t q2 hf
    obtain ⟨rfl, rfl⟩ := ret_e hf
    exact bM_two_15 
-- M_hears
def f_M_hears (w : MW) (x1 : Int32) (x2 : Int32) : Option RT := if (v_M_isMan w x1) = 0 then (some (some (.int (v_M_no w (-1 : Int32))), u_M_no w (-1 : Int32))) else (if (v_M_within w x2 (0 : Int32) ((w.1 62 10) - 1)) = 0 then (some (some (.int (v_M_no w (-5 : Int32))), u_M_no w (-5 : Int32))) else (bI (f_M_hisOf w x1) (fun v5 w5 => if (v_M_has w5 v5 x2) = 0 then (some (some (.int (0 : Int32)), w5)) else (some (some (.int (1 : Int32)), w5)))))
set_option maxHeartbeats 4000000 in
theorem c_M_hears {d : Nat} {r : Option Value} {w' : MW} (w : MW) (x1 : Int32) (x2 : Int32) (hf : f_M_hears w x1 x2 = some (r, w')) : Ct (d + 2) mM_hears [.ref 62, .int x1, .int x2] w r w' := by
  refine eM_hears ?_
  unfold f_M_hears at hf
  refine bM_hears_0 (ct := c_M_isMan (d := d) w x1) (k := ?_)
  refine bM_hears_5 (kt := fun q2 => ?_) (kf := fun q2 => ?_)
  · replace hf := ite_f q2 hf
    refine bM_hears_14 (ct := c_M_within (d := d + 1) w x2 (0 : Int32) ((w.1 62 10) - 1)) (k := ?_)
    refine bM_hears_25 (kt := fun q4 => ?_) (kf := fun q4 => ?_)
    · replace hf := ite_f q4 hf
      obtain ⟨v5, w5, e5, hf⟩ := bI_e hf
      refine bM_hears_35 (ct := c_M_hisOf (d := d) w x1 e5) (k := ?_)
      refine bM_hears_40 (ct := c_M_has (d := d + 1) w5 v5 x2) (k := ?_)
      refine bM_hears_44 (kt := fun q7 => ?_) (kf := fun q7 => ?_)
      · replace hf := ite_t q7 hf
        refine bM_hears_51 (k := ?_)
        obtain ⟨rfl, rfl⟩ := ret_e hf
        exact bM_hears_52 
      · replace hf := ite_f q7 hf
        refine bM_hears_47 (k := ?_)
        obtain ⟨rfl, rfl⟩ := ret_e hf
        exact bM_hears_52 
    · replace hf := ite_t q4 hf
      refine bM_hears_28 (ct := c_M_no (d := d + 1) w (-5 : Int32) (vpd (i := (-(-5 : Int32))) (n := 8) (by decide))) (k := ?_)
      obtain ⟨rfl, rfl⟩ := ret_e hf
      exact bM_hears_34 
  · replace hf := ite_t q2 hf
    refine bM_hears_8 (ct := c_M_no (d := d + 1) w (-1 : Int32) (vpd (i := (-(-1 : Int32))) (n := 8) (by decide))) (k := ?_)
    obtain ⟨rfl, rfl⟩ := ret_e hf
    exact bM_hears_13 
-- M_goOn
def f_M_goOn_29 : Nat → MW → Int32 → Int32 → Option RT
  | 0, _, _, _ => none
  | n + 1, w, x1, x2 => if x1 ≤ x2 then (some (none, w)) else (bV (f_M_round w ) (fun w3 => f_M_goOn_29 n w3 x1 (x2 + 1)))
set_option maxHeartbeats 4000000 in
theorem r_M_goOn_29 {d : Nat} {r : Option Value} {w' : MW} : ∀ (n : Nat) (w : MW) (x1 : Int32) (x2 : Int32), f_M_goOn_29 n w x1 x2 = some (r, w') → Rn (d + 2) mM_goOn 29 [some (.ref 62), some (.int x1), some (.int x2)] [] w r w' := by
  intro n
  induction n with
  | zero =>
    intro w x1 x2 hf
    cases hf
  | succ n ih =>
    intro w x1 x2 hf
    rw [f_M_goOn_29] at hf
    refine bM_goOn_29 (kt := fun q1 => ?_) (kf := fun q1 => ?_)
    · replace hf := ite_t q1 hf
      obtain ⟨rfl, rfl⟩ := ret_e hf
      exact bM_goOn_44 
    · replace hf := ite_f q1 hf
      obtain ⟨w3, e3, hf⟩ := bV_e hf
      refine bM_goOn_34 (ct := c_M_round (d := d) w e3) (k := ?_)
      refine bM_goOn_38 (k := ?_)
      exact ih w3 x1 (x2 + 1) hf
def f_M_goOn_2 : Nat → MW → Int32 → Int32 → Option RT
  | 0, _, _, _ => none
  | n + 1, w, x1, x2 => if (w.1 62 3) ≤ x2 then (f_M_goOn_29 FU w x1 (0 : Int32)) else (bI (f_M_hisOf w x2) (fun v3 w3 => grd (vpb x2 8 = true) (f_M_goOn_2 n (setI w3 77 x2.toNatClampNeg v3) x1 (x2 + 1))))
set_option maxHeartbeats 4000000 in
theorem r_M_goOn_2 {d : Nat} {r : Option Value} {w' : MW} : ∀ (n : Nat) (w : MW) (x1 : Int32) (x2 : Int32), f_M_goOn_2 n w x1 x2 = some (r, w') → Rn (d + 2) mM_goOn 2 [some (.ref 62), some (.int x1), some (.int x2)] [] w r w' := by
  intro n
  induction n with
  | zero =>
    intro w x1 x2 hf
    cases hf
  | succ n ih =>
    intro w x1 x2 hf
    rw [f_M_goOn_2] at hf
    refine bM_goOn_2 (kt := fun q1 => ?_) (kf := fun q1 => ?_)
    · replace hf := ite_t q1 hf
      refine bM_goOn_27 (k := ?_)
      exact r_M_goOn_29 FU w x1 (0 : Int32) hf
    · replace hf := ite_f q1 hf
      obtain ⟨v3, w3, e3, hf⟩ := bI_e hf
      refine bM_goOn_10 (y1 := 77) (ct := c_M_hisOf (d := d) w x2 e3) (k := ?_)
      obtain ⟨g4_0, hf⟩ := grd_e hf
      refine bM_goOn_20 (h2 := (vpb_ok g4_0)) (k := ?_)
      exact ih (setI w3 77 x2.toNatClampNeg v3) x1 (x2 + 1) hf
def f_M_goOn (w : MW) (x1 : Int32) : Option RT := f_M_goOn_2 FU w x1 (0 : Int32)
set_option maxHeartbeats 4000000 in
theorem c_M_goOn {d : Nat} {r : Option Value} {w' : MW} (w : MW) (x1 : Int32) (hf : f_M_goOn w x1 = some (r, w')) : Ct (d + 2) mM_goOn [.ref 62, .int x1] w r w' := by
  refine eM_goOn ?_
  unfold f_M_goOn at hf
  refine bM_goOn_0 (k := ?_)
  exact r_M_goOn_2 FU w x1 (0 : Int32) hf
-- M_whole
def f_M_whole (w : MW) : Option RT := bI (f_M_wholeOf w ) (fun v1 w1 => some (some (.int v1), w1))
set_option maxHeartbeats 4000000 in
theorem c_M_whole {d : Nat} {r : Option Value} {w' : MW} (w : MW) (hf : f_M_whole w = some (r, w')) : Ct (d + 3) mM_whole [.ref 62] w r w' := by
  refine eM_whole ?_
  unfold f_M_whole at hf
  obtain ⟨v1, w1, e1, hf⟩ := bI_e hf
  refine bM_whole_0 (ct := c_M_wholeOf (d := d) w e1) (k := ?_)
  obtain ⟨rfl, rfl⟩ := ret_e hf
  exact bM_whole_4 
-- M_known
def f_M_known (w : MW) (x1 : Int32) (x2 : Int32) : Option RT := if (v_M_isMan w x1) = 0 then (some (some (.int (v_M_no w (-1 : Int32))), u_M_no w (-1 : Int32))) else (if (v_M_isRounds w x2) = 0 then (some (some (.int (v_M_no w (-6 : Int32))), u_M_no w (-6 : Int32))) else (bV (f_M_goOn w x2) (fun w5 => grd (vpb x1 8 = true) (bI (f_JI_bitCount w5 (w5.1 77 x1.toNatClampNeg)) (fun v6 w6 => some (some (.int v6), w6))))))
set_option maxHeartbeats 4000000 in
theorem c_M_known {d : Nat} {r : Option Value} {w' : MW} (w : MW) (x1 : Int32) (x2 : Int32) (hf : f_M_known w x1 x2 = some (r, w')) : Ct (d + 3) mM_known [.ref 62, .int x1, .int x2] w r w' := by
  refine eM_known ?_
  unfold f_M_known at hf
  refine bM_known_0 (ct := c_M_isMan (d := d + 1) w x1) (k := ?_)
  refine bM_known_5 (kt := fun q2 => ?_) (kf := fun q2 => ?_)
  · replace hf := ite_f q2 hf
    refine bM_known_14 (ct := c_M_isRounds (d := d + 1) w x2) (k := ?_)
    refine bM_known_18 (kt := fun q4 => ?_) (kf := fun q4 => ?_)
    · replace hf := ite_f q4 hf
      obtain ⟨w5, e5, hf⟩ := bV_e hf
      refine bM_known_28 (ct := c_M_goOn (d := d) w x2 e5) (k := ?_)
      obtain ⟨g6_0, hf⟩ := grd_e hf
      obtain ⟨v6, w6, e6, hf⟩ := bI_e hf
      refine bM_known_33 (y1 := 77) (h3 := (vpb_ok g6_0)) (ct := c_JI_bitCount (d := d + 2) w5 (w5.1 77 x1.toNatClampNeg) e6) (k := ?_)
      obtain ⟨rfl, rfl⟩ := ret_e hf
      exact bM_known_42 
    · replace hf := ite_t q4 hf
      refine bM_known_21 (ct := c_M_no (d := d + 2) w (-6 : Int32) (vpd (i := (-(-6 : Int32))) (n := 8) (by decide))) (k := ?_)
      obtain ⟨rfl, rfl⟩ := ret_e hf
      exact bM_known_27 
  · replace hf := ite_t q2 hf
    refine bM_known_8 (ct := c_M_no (d := d + 2) w (-1 : Int32) (vpd (i := (-(-1 : Int32))) (n := 8) (by decide))) (k := ?_)
    obtain ⟨rfl, rfl⟩ := ret_e hf
    exact bM_known_13 
-- M_heardBy
def f_M_heardBy_4 : Nat → MW → Int32 → Int32 → Int32 → Option RT
  | 0, _, _, _, _ => none
  | n + 1, w, x1, x2, x3 => if (w.1 62 3) ≤ x3 then (some (some (.int x2), w)) else (if (v_M_has w x1 x3) = 0 then (f_M_heardBy_4 n w x1 x2 (x3 + 1)) else (bI (f_M_hisOf w x3) (fun v6 w6 => f_M_heardBy_4 n w6 x1 (x2 ||| v6) (x3 + 1))))
set_option maxHeartbeats 4000000 in
theorem r_M_heardBy_4 {d : Nat} {r : Option Value} {w' : MW} : ∀ (n : Nat) (w : MW) (x1 : Int32) (x2 : Int32) (x3 : Int32), f_M_heardBy_4 n w x1 x2 x3 = some (r, w') → Rn (d + 2) mM_heardBy 4 [some (.ref 62), some (.int x1), some (.int x2), some (.int x3)] [] w r w' := by
  intro n
  induction n with
  | zero =>
    intro w x1 x2 x3 hf
    cases hf
  | succ n ih =>
    intro w x1 x2 x3 hf
    rw [f_M_heardBy_4] at hf
    refine bM_heardBy_4 (kt := fun q1 => ?_) (kf := fun q1 => ?_)
    · replace hf := ite_t q1 hf
      obtain ⟨rfl, rfl⟩ := ret_e hf
      exact bM_heardBy_34 
    · replace hf := ite_f q1 hf
      refine bM_heardBy_12 (ct := c_M_has (d := d + 1) w x1 x3) (k := ?_)
      refine bM_heardBy_17 (kt := fun q4 => ?_) (kf := fun q4 => ?_)
      · replace hf := ite_t q4 hf
        refine bM_heardBy_28 (k := ?_)
        exact ih w x1 x2 (x3 + 1) hf
      · replace hf := ite_f q4 hf
        obtain ⟨v6, w6, e6, hf⟩ := bI_e hf
        refine bM_heardBy_20 (ct := c_M_hisOf (d := d) w x3 e6) (k := ?_)
        refine bM_heardBy_26 (k := ?_)
        refine bM_heardBy_28 (k := ?_)
        exact ih w6 x1 (x2 ||| v6) (x3 + 1) hf
def f_M_heardBy (w : MW) (x1 : Int32) : Option RT := f_M_heardBy_4 FU w x1 (0 : Int32) (0 : Int32)
set_option maxHeartbeats 4000000 in
theorem c_M_heardBy {d : Nat} {r : Option Value} {w' : MW} (w : MW) (x1 : Int32) (hf : f_M_heardBy w x1 = some (r, w')) : Ct (d + 2) mM_heardBy [.ref 62, .int x1] w r w' := by
  refine eM_heardBy ?_
  unfold f_M_heardBy at hf
  refine bM_heardBy_0 (k := ?_)
  exact r_M_heardBy_4 FU w x1 (0 : Int32) (0 : Int32) hf
-- M_cover
def f_M_cover_4 : Nat → MW → Int32 → Int32 → Option RT
  | 0, _, _, _ => none
  | n + 1, w, x1, x2 => if ((1 : Int32) <<< ((w.1 62 3) &&& 31)) ≤ x2 then (some (some (.int x1), w)) else (bI (f_M_isBetter w x2 x1) (fun v3 w3 => if v3 = 0 then (f_M_cover_4 n w3 x1 (x2 + 1)) else (bI (f_M_heardBy w3 x2) (fun v6 w6 => if v6 = (((1 : Int32) <<< ((w6.1 62 10) &&& 31)) - 1) then (f_M_cover_4 n w6 x2 (x2 + 1)) else (f_M_cover_4 n w6 x1 (x2 + 1))))))
set_option maxHeartbeats 4000000 in
theorem r_M_cover_4 {d : Nat} {r : Option Value} {w' : MW} : ∀ (n : Nat) (w : MW) (x1 : Int32) (x2 : Int32), f_M_cover_4 n w x1 x2 = some (r, w') → Rn (d + 3) mM_cover 4 [some (.ref 62), some (.int x1), some (.int x2)] [] w r w' := by
  intro n
  induction n with
  | zero =>
    intro w x1 x2 hf
    cases hf
  | succ n ih =>
    intro w x1 x2 hf
    rw [f_M_cover_4] at hf
    refine bM_cover_4 (kt := fun q1 => ?_) (kf := fun q1 => ?_)
    · replace hf := ite_t q1 hf
      obtain ⟨rfl, rfl⟩ := ret_e hf
      exact bM_cover_46 
    · replace hf := ite_f q1 hf
      obtain ⟨v3, w3, e3, hf⟩ := bI_e hf
      refine bM_cover_14 (ct := c_M_isBetter (d := d + 1) w x2 x1 e3) (k := ?_)
      refine bM_cover_19 (kt := fun q4 => ?_) (kf := fun q4 => ?_)
      · replace hf := ite_t q4 hf
        refine bM_cover_40 (k := ?_)
        exact ih w3 x1 (x2 + 1) hf
      · replace hf := ite_f q4 hf
        obtain ⟨v6, w6, e6, hf⟩ := bI_e hf
        refine bM_cover_22 (ct := c_M_heardBy (d := d) w3 x2 e6) (k := ?_)
        refine bM_cover_27 (kt := fun q7 => ?_) (kf := fun q7 => ?_)
        · replace hf := ite_f q7 hf
          refine bM_cover_40 (k := ?_)
          exact ih w6 x1 (x2 + 1) hf
        · replace hf := ite_t q7 hf
          refine bM_cover_38 (k := ?_)
          refine bM_cover_40 (k := ?_)
          exact ih w6 x2 (x2 + 1) hf
def f_M_cover (w : MW) : Option RT := f_M_cover_4 FU w (-1 : Int32) (0 : Int32)
set_option maxHeartbeats 4000000 in
theorem c_M_cover {d : Nat} {r : Option Value} {w' : MW} (w : MW) (hf : f_M_cover w = some (r, w')) : Ct (d + 3) mM_cover [.ref 62] w r w' := by
  refine eM_cover ?_
  unfold f_M_cover at hf
  refine bM_cover_0 (k := ?_)
  exact r_M_cover_4 FU w (-1 : Int32) (0 : Int32) hf
-- M_ask
def f_M_ask_29 : Nat → MW → Int32 → Int32 → Int32 → Int32 → Int32 → Option RT
  | 0, _, _, _, _, _, _ => none
  | n + 1, w, x1, x2, x3, x4, x5 => if (w.1 62 3) ≤ x5 then (some (some (.int x3), w)) else (bI (f_M_hisOf w x5) (fun v3 w3 => bI (f_JI_bitCount w3 (v3 &&& (x2 ^^^ (-1)))) (fun v4 w4 => if (v_M_has w4 x1 x5) = 0 then (if x4 < v4 then (f_M_ask_29 n w4 x1 x2 x5 v4 (x5 + 1)) else (f_M_ask_29 n w4 x1 x2 x3 x4 (x5 + 1))) else (f_M_ask_29 n w4 x1 x2 x3 x4 (x5 + 1)))))
set_option maxHeartbeats 4000000 in
theorem r_M_ask_29 {d : Nat} {r : Option Value} {w' : MW} : ∀ (n : Nat) (w : MW) (x1 : Int32) (x2 : Int32) (x3 : Int32) (x4 : Int32) (x5 : Int32), f_M_ask_29 n w x1 x2 x3 x4 x5 = some (r, w') → Rn (d + 3) mM_ask 29 [some (.ref 62), some (.int x1), some (.int x2), some (.int x3), some (.int x4), some (.int x5), none] [] w r w' := by
  intro n
  induction n with
  | zero =>
    intro w x1 x2 x3 x4 x5 hf
    cases hf
  | succ n ih =>
    intro w x1 x2 x3 x4 x5 hf
    rw [f_M_ask_29] at hf
    refine bM_ask_29 (kt := fun q1 => ?_) (kf := fun q1 => ?_)
    · replace hf := ite_t q1 hf
      obtain ⟨rfl, rfl⟩ := ret_e hf
      exact bM_ask_85 
    · replace hf := ite_f q1 hf
      obtain ⟨v3, w3, e3, hf⟩ := bI_e hf
      refine bM_ask_38 (ct := c_M_hisOf (d := d + 1) w x5 e3) (k := ?_)
      obtain ⟨v4, w4, e4, hf⟩ := bI_e hf
      refine bM_ask_44 (ct := c_JI_bitCount (d := d + 2) w3 (v3 &&& (x2 ^^^ (-1))) e4) (k := ?_)
      refine bM_ask_51 (ct := c_M_has (d := d + 2) w4 x1 x5) (k := ?_)
      refine bM_ask_59 (kt := fun q6 => ?_) (kf := fun q6 => ?_)
      · replace hf := ite_f q6 hf
        refine bM_ask_79 (k := ?_)
        exact ih w4 x1 x2 x3 x4 (x5 + 1) hf
      · replace hf := ite_t q6 hf
        refine bM_ask_62 (kt := fun q8 => ?_) (kf := fun q8 => ?_)
        · replace hf := ite_t q8 hf
          refine bM_ask_72 (k := ?_)
          refine bM_ask_79 (k := ?_)
          exact ih w4 x1 x2 x5 v4 (x5 + 1) hf
        · replace hf := ite_f q8 hf
          refine bM_ask_69 (k := ?_)
          refine bM_ask_79 (k := ?_)
          exact ih w4 x1 x2 x3 x4 (x5 + 1) hf
def f_M_ask (w : MW) (x1 : Int32) : Option RT := bI (f_M_isSet w x1) (fun v1 w1 => if v1 = 0 then (some (some (.int (v_M_no10 w1 (-6 : Int32))), u_M_no10 w1 (-6 : Int32))) else (bI (f_M_heardBy w1 x1) (fun v3 w3 => f_M_ask_29 FU w3 x1 v3 (-1 : Int32) (0 : Int32) (0 : Int32))))
set_option maxHeartbeats 4000000 in
theorem c_M_ask {d : Nat} {r : Option Value} {w' : MW} (w : MW) (x1 : Int32) (hf : f_M_ask w x1 = some (r, w')) : Ct (d + 3) mM_ask [.ref 62, .int x1] w r w' := by
  refine eM_ask ?_
  unfold f_M_ask at hf
  obtain ⟨v1, w1, e1, hf⟩ := bI_e hf
  refine bM_ask_0 (ct := c_M_isSet (d := d + 2) w x1 e1) (k := ?_)
  refine bM_ask_5 (kt := fun q2 => ?_) (kf := fun q2 => ?_)
  · replace hf := ite_f q2 hf
    obtain ⟨v3, w3, e3, hf⟩ := bI_e hf
    refine bM_ask_15 (ct := c_M_heardBy (d := d) w1 x1 e3) (k := ?_)
    refine bM_ask_20 (k := ?_)
    exact r_M_ask_29 FU w3 x1 v3 (-1 : Int32) (0 : Int32) (0 : Int32) hf
  · replace hf := ite_t q2 hf
    refine bM_ask_8 (ct := c_M_no10 (d := d + 1) w1 (-6 : Int32) (vpd (i := (-(-6 : Int32))) (n := 8) (by decide))) (k := ?_)
    obtain ⟨rfl, rfl⟩ := ret_e hf
    exact bM_ask_14 
-- M_soonOf
def f_M_soonOf_19 : Nat → MW → Int32 → Int32 → Int32 → Option RT
  | 0, _, _, _, _ => none
  | n + 1, w, x1, x2, x3 => if 10 ≤ x3 then (some (some (.int (-1 : Int32)), w)) else (grd (vpb x1 8 = true) (bI (f_M_senseOf w (w.1 77 x1.toNatClampNeg)) (fun v3 w3 => if v3 = x2 then (some (some (.int x3), w3)) else (bV (f_M_round w3 ) (fun w5 => f_M_soonOf_19 n w5 x1 x2 (x3 + 1))))))
set_option maxHeartbeats 4000000 in
theorem r_M_soonOf_19 {d : Nat} {r : Option Value} {w' : MW} : ∀ (n : Nat) (w : MW) (x1 : Int32) (x2 : Int32) (x3 : Int32), f_M_soonOf_19 n w x1 x2 x3 = some (r, w') → Rn (d + 3) mM_soonOf 19 [some (.ref 62), some (.int x1), some (.int x2), some (.int x3)] [] w r w' := by
  intro n
  induction n with
  | zero =>
    intro w x1 x2 x3 hf
    cases hf
  | succ n ih =>
    intro w x1 x2 x3 hf
    rw [f_M_soonOf_19] at hf
    refine bM_soonOf_19 (kt := fun q1 => ?_) (kf := fun q1 => ?_)
    · replace hf := ite_t q1 hf
      obtain ⟨rfl, rfl⟩ := ret_e hf
      exact bM_soonOf_51 
    · replace hf := ite_f q1 hf
      obtain ⟨g3_0, hf⟩ := grd_e hf
      obtain ⟨v3, w3, e3, hf⟩ := bI_e hf
      refine bM_soonOf_25 (y1 := 77) (h3 := (vpb_ok g3_0)) (ct := c_M_senseOf (d := d + 1) w (w.1 77 x1.toNatClampNeg) e3) (k := ?_)
      refine bM_soonOf_35 (kt := fun q4 => ?_) (kf := fun q4 => ?_)
      · replace hf := ite_f q4 hf
        obtain ⟨w5, e5, hf⟩ := bV_e hf
        refine bM_soonOf_41 (ct := c_M_round (d := d + 1) w3 e5) (k := ?_)
        refine bM_soonOf_45 (k := ?_)
        exact ih w5 x1 x2 (x3 + 1) hf
      · replace hf := ite_t q4 hf
        obtain ⟨rfl, rfl⟩ := ret_e hf
        exact bM_soonOf_39 
def f_M_soonOf (w : MW) (x1 : Int32) : Option RT := bI (f_M_wholeOf w ) (fun v1 w1 => if v1 = (-1) then (some (some (.int (-1 : Int32)), w1)) else (bV (f_M_goOn w1 (0 : Int32)) (fun w3 => f_M_soonOf_19 FU w3 x1 v1 (0 : Int32))))
set_option maxHeartbeats 4000000 in
theorem c_M_soonOf {d : Nat} {r : Option Value} {w' : MW} (w : MW) (x1 : Int32) (hf : f_M_soonOf w x1 = some (r, w')) : Ct (d + 3) mM_soonOf [.ref 62, .int x1] w r w' := by
  refine eM_soonOf ?_
  unfold f_M_soonOf at hf
  obtain ⟨v1, w1, e1, hf⟩ := bI_e hf
  refine bM_soonOf_0 (ct := c_M_wholeOf (d := d) w e1) (k := ?_)
  refine bM_soonOf_4 (kt := fun q2 => ?_) (kf := fun q2 => ?_)
  · replace hf := ite_f q2 hf
    obtain ⟨w3, e3, hf⟩ := bV_e hf
    refine bM_soonOf_12 (ct := c_M_goOn (d := d) w1 (0 : Int32) e3) (k := ?_)
    refine bM_soonOf_17 (k := ?_)
    exact r_M_soonOf_19 FU w3 x1 v1 (0 : Int32) hf
  · replace hf := ite_t q2 hf
    obtain ⟨rfl, rfl⟩ := ret_e hf
    exact bM_soonOf_10 
-- M_wrongOnes
def f_M_wrongOnes_29 : Nat → MW → Int32 → Int32 → Int32 → Option RT
  | 0, _, _, _, _ => none
  | n + 1, w, x2, x3, x4 => if (w.1 62 3) ≤ x4 then (some (some (.int x3), w)) else (grd (vpb x4 8 = true) (bI (f_M_senseOf w (w.1 77 x4.toNatClampNeg)) (fun v3 w3 => if v3 = (-1) then (f_M_wrongOnes_29 n w3 x2 x3 (x4 + 1)) else (grd (vpb x4 8 = true) (bI (f_M_senseOf w3 (w3.1 77 x4.toNatClampNeg)) (fun v6 w6 => if v6 = x2 then (f_M_wrongOnes_29 n w6 x2 x3 (x4 + 1)) else (f_M_wrongOnes_29 n w6 x2 (x3 ||| ((1 : Int32) <<< (x4 &&& 31))) (x4 + 1))))))))
set_option maxHeartbeats 4000000 in
theorem r_M_wrongOnes_29 {d : Nat} {r : Option Value} {w' : MW} : ∀ (n : Nat) (w : MW) (x2 : Int32) (x3 : Int32) (x4 : Int32), f_M_wrongOnes_29 n w x2 x3 x4 = some (r, w') → Rn (d + 3) mM_wrongOnes 29 [some (.ref 62), none, some (.int x2), some (.int x3), some (.int x4)] [] w r w' := by
  intro n
  induction n with
  | zero =>
    intro w x2 x3 x4 hf
    cases hf
  | succ n ih =>
    intro w x2 x3 x4 hf
    rw [f_M_wrongOnes_29] at hf
    refine bM_wrongOnes_29 (kt := fun q1 => ?_) (kf := fun q1 => ?_)
    · replace hf := ite_t q1 hf
      obtain ⟨rfl, rfl⟩ := ret_e hf
      exact bM_wrongOnes_81 
    · replace hf := ite_f q1 hf
      obtain ⟨g3_0, hf⟩ := grd_e hf
      obtain ⟨v3, w3, e3, hf⟩ := bI_e hf
      refine bM_wrongOnes_38 (y1 := 77) (h3 := (vpb_ok g3_0)) (ct := c_M_senseOf (d := d + 1) w (w.1 77 x4.toNatClampNeg) e3) (k := ?_)
      refine bM_wrongOnes_49 (kt := fun q4 => ?_) (kf := fun q4 => ?_)
      · replace hf := ite_t q4 hf
        refine bM_wrongOnes_75 (k := ?_)
        exact ih w3 x2 x3 (x4 + 1) hf
      · replace hf := ite_f q4 hf
        obtain ⟨g6_0, hf⟩ := grd_e hf
        obtain ⟨v6, w6, e6, hf⟩ := bI_e hf
        refine bM_wrongOnes_53 (y1 := 77) (h3 := (vpb_ok g6_0)) (ct := c_M_senseOf (d := d + 1) w3 (w3.1 77 x4.toNatClampNeg) e6) (k := ?_)
        refine bM_wrongOnes_64 (kt := fun q7 => ?_) (kf := fun q7 => ?_)
        · replace hf := ite_t q7 hf
          refine bM_wrongOnes_75 (k := ?_)
          exact ih w6 x2 x3 (x4 + 1) hf
        · replace hf := ite_f q7 hf
          refine bM_wrongOnes_68 (k := ?_)
          refine bM_wrongOnes_75 (k := ?_)
          exact ih w6 x2 (x3 ||| ((1 : Int32) <<< (x4 &&& 31))) (x4 + 1) hf
def f_M_wrongOnes (w : MW) (x1 : Int32) : Option RT := if (v_M_isRounds w x1) = 0 then (some (some (.int (v_M_no w (-6 : Int32))), u_M_no w (-6 : Int32))) else (bI (f_M_wholeOf w ) (fun v3 w3 => bV (f_M_goOn w3 x1) (fun w4 => f_M_wrongOnes_29 FU w4 v3 (0 : Int32) (0 : Int32))))
set_option maxHeartbeats 4000000 in
theorem c_M_wrongOnes {d : Nat} {r : Option Value} {w' : MW} (w : MW) (x1 : Int32) (hf : f_M_wrongOnes w x1 = some (r, w')) : Ct (d + 3) mM_wrongOnes [.ref 62, .int x1] w r w' := by
  refine eM_wrongOnes ?_
  unfold f_M_wrongOnes at hf
  refine bM_wrongOnes_0 (ct := c_M_isRounds (d := d + 1) w x1) (k := ?_)
  refine bM_wrongOnes_4 (kt := fun q2 => ?_) (kf := fun q2 => ?_)
  · replace hf := ite_f q2 hf
    obtain ⟨v3, w3, e3, hf⟩ := bI_e hf
    refine bM_wrongOnes_14 (ct := c_M_wholeOf (d := d) w e3) (k := ?_)
    obtain ⟨w4, e4, hf⟩ := bV_e hf
    refine bM_wrongOnes_18 (ct := c_M_goOn (d := d) w3 x1 e4) (k := ?_)
    refine bM_wrongOnes_24 (k := ?_)
    exact r_M_wrongOnes_29 FU w4 v3 (0 : Int32) (0 : Int32) hf
  · replace hf := ite_t q2 hf
    refine bM_wrongOnes_7 (ct := c_M_no (d := d + 2) w (-6 : Int32) (vpd (i := (-(-6 : Int32))) (n := 8) (by decide))) (k := ?_)
    obtain ⟨rfl, rfl⟩ := ret_e hf
    exact bM_wrongOnes_13 
-- M_apart
def f_M_apart_58 (k26 : MW → Int32 → Int32 → Int32 → Option RT) : Nat → MW → Int32 → Int32 → Int32 → Int32 → Option RT
  | 0, _, _, _, _, _ => none
  | n + 1, w, x1, x2, x3, x4 => if (w.1 62 3) ≤ x4 then (bI (f_M_soonOf w x1) (fun v2 w2 => if v2 = (-1) then (bV (f_M_again w2 76) (fun w7 => k26 w7 x1 x3 (x3 + 1))) else (bV (f_M_again w2 76) (fun w4 => k26 w4 x1 x2 (x3 + 1))))) else (if (v_M_has w x3 x4) = 0 then (grd (vpb x4 8 = true) (grd (vpb x4 8 = true) (f_M_apart_58 k26 n (setI w 71 x4.toNatClampNeg ((w.1 71 x4.toNatClampNeg) &&& (x3 ^^^ (-1)))) x1 x2 x3 (x4 + 1)))) else (grd (vpb x4 8 = true) (f_M_apart_58 k26 n (setI w 71 x4.toNatClampNeg 0) x1 x2 x3 (x4 + 1))))
set_option maxHeartbeats 4000000 in
theorem r_M_apart_58 {d : Nat} {r : Option Value} {w' : MW} (k26 : MW → Int32 → Int32 → Int32 → Option RT) (hk26 : ∀ w x1 x2 x3, k26 w x1 x2 x3 = some (r, w') → Rn (d + 4) mM_apart 26 [some (.ref 62), some (.int x1), some (.int x2), some (.int x3), none] [] w r w') : ∀ (n : Nat) (w : MW) (x1 : Int32) (x2 : Int32) (x3 : Int32) (x4 : Int32), f_M_apart_58 k26 n w x1 x2 x3 x4 = some (r, w') → Rn (d + 4) mM_apart 58 [some (.ref 62), some (.int x1), some (.int x2), some (.int x3), some (.int x4)] [] w r w' := by
  intro n
  induction n with
  | zero =>
    intro w x1 x2 x3 x4 hf
    cases hf
  | succ n ih =>
    intro w x1 x2 x3 x4 hf
    rw [f_M_apart_58] at hf
    refine bM_apart_58 (kt := fun q1 => ?_) (kf := fun q1 => ?_)
    · replace hf := ite_t q1 hf
      obtain ⟨v2, w2, e2, hf⟩ := bI_e hf
      refine bM_apart_104 (ct := c_M_soonOf (d := d) w x1 e2) (k := ?_)
      refine bM_apart_109 (kt := fun q3 => ?_) (kf := fun q3 => ?_)
      · replace hf := ite_f q3 hf
        obtain ⟨w4, e4, hf⟩ := bV_e hf
        refine bM_apart_115 (y1 := 76) (ct := c_M_again (d := d + 3) w2 76 ⟨rfl, rfl⟩ e4) (k := ?_)
        refine bM_apart_123 (k := ?_)
        exact hk26 w4 x1 x2 (x3 + 1) hf
      · replace hf := ite_t q3 hf
        refine bM_apart_113 (k := ?_)
        obtain ⟨w7, e7, hf⟩ := bV_e hf
        refine bM_apart_115 (y1 := 76) (ct := c_M_again (d := d + 3) w2 76 ⟨rfl, rfl⟩ e7) (k := ?_)
        refine bM_apart_123 (k := ?_)
        exact hk26 w7 x1 x3 (x3 + 1) hf
    · replace hf := ite_f q1 hf
      refine bM_apart_67 (y1 := 71) (ct := c_M_has (d := d + 3) w x3 x4) (k := ?_)
      refine bM_apart_79 (kt := fun q10 => ?_) (kf := fun q10 => ?_)
      · replace hf := ite_t q10 hf
        obtain ⟨g11_0, hf⟩ := grd_e hf
        refine bM_apart_86 (y1 := 71) (h3 := (vpb_ok g11_0)) (k := ?_)
        obtain ⟨g12_0, hf⟩ := grd_e hf
        refine bM_apart_97 (h2 := (vpb_ok g12_0)) (k := ?_)
        exact ih (setI w 71 x4.toNatClampNeg ((w.1 71 x4.toNatClampNeg) &&& (x3 ^^^ (-1)))) x1 x2 x3 (x4 + 1) hf
      · replace hf := ite_f q10 hf
        refine bM_apart_82 (k := ?_)
        obtain ⟨g14_0, hf⟩ := grd_e hf
        refine bM_apart_97 (h2 := (vpb_ok g14_0)) (k := ?_)
        exact ih (setI w 71 x4.toNatClampNeg 0) x1 x2 x3 (x4 + 1) hf
def f_M_apart_26 : Nat → MW → Int32 → Int32 → Int32 → Option RT
  | 0, _, _, _, _ => none
  | n + 1, w, x1, x2, x3 => if ((1 : Int32) <<< ((w.1 62 3) &&& 31)) ≤ x3 then (some (some (.int x2), w)) else (if (v_M_has w x3 x1) = 0 then (bI (f_M_isBetter w x3 x2) (fun v6 w6 => if v6 = 0 then (f_M_apart_26 n w6 x1 x2 (x3 + 1)) else (f_M_apart_58 (fun w x1 x2 x3 => f_M_apart_26 n w x1 x2 x3) FU w6 x1 x2 x3 (0 : Int32)))) else (f_M_apart_26 n w x1 x2 (x3 + 1)))
set_option maxHeartbeats 4000000 in
theorem r_M_apart_26 {d : Nat} {r : Option Value} {w' : MW} : ∀ (n : Nat) (w : MW) (x1 : Int32) (x2 : Int32) (x3 : Int32), f_M_apart_26 n w x1 x2 x3 = some (r, w') → Rn (d + 4) mM_apart 26 [some (.ref 62), some (.int x1), some (.int x2), some (.int x3), none] [] w r w' := by
  intro n
  induction n with
  | zero =>
    intro w x1 x2 x3 hf
    cases hf
  | succ n ih =>
    intro w x1 x2 x3 hf
    rw [f_M_apart_26] at hf
    refine bM_apart_26 (kt := fun q1 => ?_) (kf := fun q1 => ?_)
    · replace hf := ite_t q1 hf
      obtain ⟨rfl, rfl⟩ := ret_e hf
      exact bM_apart_129 
    · replace hf := ite_f q1 hf
      refine bM_apart_36 (ct := c_M_has (d := d + 3) w x3 x1) (k := ?_)
      refine bM_apart_41 (kt := fun q4 => ?_) (kf := fun q4 => ?_)
      · replace hf := ite_f q4 hf
        refine bM_apart_123 (k := ?_)
        exact ih w x1 x2 (x3 + 1) hf
      · replace hf := ite_t q4 hf
        obtain ⟨v6, w6, e6, hf⟩ := bI_e hf
        refine bM_apart_44 (ct := c_M_isBetter (d := d + 2) w x3 x2 e6) (k := ?_)
        refine bM_apart_49 (kt := fun q7 => ?_) (kf := fun q7 => ?_)
        · replace hf := ite_f q7 hf
          refine bM_apart_55 (k := ?_)
          exact r_M_apart_58 (fun w x1 x2 x3 => f_M_apart_26 n w x1 x2 x3) ih FU w6 x1 x2 x3 (0 : Int32) hf
        · replace hf := ite_t q7 hf
          refine bM_apart_52 (k := ?_)
          refine bM_apart_123 (k := ?_)
          exact ih w6 x1 x2 (x3 + 1) hf
def f_M_apart (w : MW) (x1 : Int32) : Option RT := if (v_M_isMan w x1) = 0 then (some (some (.int (v_M_no10 w (-1 : Int32))), u_M_no10 w (-1 : Int32))) else (bV (f_M_keep w 76) (fun w3 => f_M_apart_26 FU w3 x1 (-1 : Int32) (0 : Int32)))
set_option maxHeartbeats 4000000 in
theorem c_M_apart {d : Nat} {r : Option Value} {w' : MW} (w : MW) (x1 : Int32) (hf : f_M_apart w x1 = some (r, w')) : Ct (d + 4) mM_apart [.ref 62, .int x1] w r w' := by
  refine eM_apart ?_
  unfold f_M_apart at hf
  refine bM_apart_0 (ct := c_M_isMan (d := d + 2) w x1) (k := ?_)
  refine bM_apart_5 (kt := fun q2 => ?_) (kf := fun q2 => ?_)
  · replace hf := ite_f q2 hf
    obtain ⟨w3, e3, hf⟩ := bV_e hf
    refine bM_apart_14 (y1 := 76) (ct := c_M_keep (d := d + 3) w 76 ⟨rfl, rfl⟩ e3) (k := ?_)
    refine bM_apart_22 (k := ?_)
    exact r_M_apart_26 FU w3 x1 (-1 : Int32) (0 : Int32) hf
  · replace hf := ite_t q2 hf
    refine bM_apart_8 (ct := c_M_no10 (d := d + 2) w (-1 : Int32) (vpd (i := (-(-1 : Int32))) (n := 8) (by decide))) (k := ?_)
    obtain ⟨rfl, rfl⟩ := ret_e hf
    exact bM_apart_13 
-- M_haveIt
def f_M_haveIt_15 : Nat → MW → Int32 → Int32 → Int32 → Option RT
  | 0, _, _, _, _ => none
  | n + 1, w, x1, x2, x3 => if (w.1 62 3) ≤ x3 then (some (some (.int x2), w)) else (if x1 = (-1) then (f_M_haveIt_15 n w x1 x2 (x3 + 1)) else (grd (vpb x3 8 = true) (bI (f_M_senseOf w (w.1 77 x3.toNatClampNeg)) (fun v5 w5 => if v5 = x1 then (f_M_haveIt_15 n w5 x1 (x2 + 1) (x3 + 1)) else (f_M_haveIt_15 n w5 x1 x2 (x3 + 1))))))
set_option maxHeartbeats 4000000 in
theorem r_M_haveIt_15 {d : Nat} {r : Option Value} {w' : MW} : ∀ (n : Nat) (w : MW) (x1 : Int32) (x2 : Int32) (x3 : Int32), f_M_haveIt_15 n w x1 x2 x3 = some (r, w') → Rn (d + 3) mM_haveIt 15 [some (.ref 62), some (.int x1), some (.int x2), some (.int x3)] [] w r w' := by
  intro n
  induction n with
  | zero =>
    intro w x1 x2 x3 hf
    cases hf
  | succ n ih =>
    intro w x1 x2 x3 hf
    rw [f_M_haveIt_15] at hf
    refine bM_haveIt_15 (kt := fun q1 => ?_) (kf := fun q1 => ?_)
    · replace hf := ite_t q1 hf
      obtain ⟨rfl, rfl⟩ := ret_e hf
      exact bM_haveIt_51 
    · replace hf := ite_f q1 hf
      refine bM_haveIt_23 (kt := fun q3 => ?_) (kf := fun q3 => ?_)
      · replace hf := ite_t q3 hf
        refine bM_haveIt_45 (k := ?_)
        exact ih w x1 x2 (x3 + 1) hf
      · replace hf := ite_f q3 hf
        obtain ⟨g5_0, hf⟩ := grd_e hf
        obtain ⟨v5, w5, e5, hf⟩ := bI_e hf
        refine bM_haveIt_28 (y1 := 77) (h3 := (vpb_ok g5_0)) (ct := c_M_senseOf (d := d + 1) w (w.1 77 x3.toNatClampNeg) e5) (k := ?_)
        refine bM_haveIt_38 (kt := fun q6 => ?_) (kf := fun q6 => ?_)
        · replace hf := ite_f q6 hf
          refine bM_haveIt_45 (k := ?_)
          exact ih w5 x1 x2 (x3 + 1) hf
        · replace hf := ite_t q6 hf
          refine bM_haveIt_42 (k := ?_)
          refine bM_haveIt_45 (k := ?_)
          exact ih w5 x1 (x2 + 1) (x3 + 1) hf
def f_M_haveIt (w : MW) : Option RT := bI (f_M_wholeOf w ) (fun v1 w1 => bV (f_M_goOn w1 (9 : Int32)) (fun w2 => f_M_haveIt_15 FU w2 v1 (0 : Int32) (0 : Int32)))
set_option maxHeartbeats 4000000 in
theorem c_M_haveIt {d : Nat} {r : Option Value} {w' : MW} (w : MW) (hf : f_M_haveIt w = some (r, w')) : Ct (d + 3) mM_haveIt [.ref 62] w r w' := by
  refine eM_haveIt ?_
  unfold f_M_haveIt at hf
  obtain ⟨v1, w1, e1, hf⟩ := bI_e hf
  refine bM_haveIt_0 (ct := c_M_wholeOf (d := d) w e1) (k := ?_)
  obtain ⟨w2, e2, hf⟩ := bV_e hf
  refine bM_haveIt_4 (ct := c_M_goOn (d := d) w1 (9 : Int32) e2) (k := ?_)
  refine bM_haveIt_13 (k := ?_)
  exact r_M_haveIt_15 FU w2 v1 (0 : Int32) (0 : Int32) hf
-- M_needs
def f_M_needs (w : MW) (x1 : Int32) : Option RT := if 0 ≤ (v_M_noRow w x1) then (grd (vpb x1 8 = true) (if (w.1 62 3) ≤ (w.1 64 x1.toNatClampNeg) then (bI (f_M_wrong w x1 (w.1 62 3)) (fun v4 w4 => if v4 = (-1) then (bI (f_M_wanted w4 x1 (0 : Int32)) (fun v6 w6 => bI (f_M_wanted w6 x1 (1 : Int32)) (fun v7 w7 => bI (f_M_wanted w7 x1 (2 : Int32)) (fun v8 w8 => bI (f_M_wanted w8 x1 (2 : Int32)) (fun v9 w9 => if (if v6 < if v7 < v8 then v8 else v7 then if v7 < v8 then v8 else v7 else v6) ≤ v9 then (some (some (.int (3 * (if v6 < if v7 < v8 then v8 else v7 then if v7 < v8 then v8 else v7 else v6))), w9)) else (bI (f_M_wanted w9 x1 (1 : Int32)) (fun v12 w12 => if (if v6 < if v7 < v8 then v8 else v7 then if v7 < v8 then v8 else v7 else v6) ≤ v12 then (some (some (.int ((3 * (if v6 < if v7 < v8 then v8 else v7 then if v7 < v8 then v8 else v7 else v6)) + (-1))), w12)) else (some (some (.int (((3 * (if v6 < if v7 < v8 then v8 else v7 then if v7 < v8 then v8 else v7 else v6)) + (-1)) + (-1))), w12))))))))) else (some (some (.int (v_M_no w4 (-6 : Int32))), u_M_no w4 (-6 : Int32))))) else (some (some (.int (v_M_no w (-5 : Int32))), u_M_no w (-5 : Int32))))) else (some (some (.int (v_M_no w (v_M_noRow w x1))), u_M_no w (v_M_noRow w x1)))
set_option maxHeartbeats 4000000 in
theorem c_M_needs {d : Nat} {r : Option Value} {w' : MW} (w : MW) (x1 : Int32) (hf : f_M_needs w x1 = some (r, w')) : Ct (d + 3) mM_needs [.ref 62, .int x1] w r w' := by
  refine eM_needs ?_
  unfold f_M_needs at hf
  refine bM_needs_0 (ct := c_M_noRow (d := d + 1) w x1) (k := ?_)
  refine bM_needs_5 (kt := fun q2 => ?_) (kf := fun q2 => ?_)
  · replace hf := ite_t q2 hf
    obtain ⟨g3_0, hf⟩ := grd_e hf
    refine bM_needs_16 (y1 := 64) (h3 := (vpb_ok g3_0)) (kt := fun q3 => ?_) (kf := fun q3 => ?_)
    · replace hf := ite_t q3 hf
      obtain ⟨v4, w4, e4, hf⟩ := bI_e hf
      refine bM_needs_36 (ct := c_M_wrong (d := d) w x1 (w.1 62 3) e4) (k := ?_)
      refine bM_needs_45 (kt := fun q5 => ?_) (kf := fun q5 => ?_)
      · replace hf := ite_t q5 hf
        obtain ⟨v6, w6, e6, hf⟩ := bI_e hf
        refine bM_needs_56 (ct := c_M_wanted (d := d + 1) w4 x1 (0 : Int32) e6) (k := ?_)
        obtain ⟨v7, w7, e7, hf⟩ := bI_e hf
        refine bM_needs_62 (ct := c_M_wanted (d := d + 1) w6 x1 (1 : Int32) e7) (k := ?_)
        obtain ⟨v8, w8, e8, hf⟩ := bI_e hf
        refine bM_needs_68 (ct := c_M_wanted (d := d + 1) w7 x1 (2 : Int32) e8) (k := ?_)
        obtain ⟨v9, w9, e9, hf⟩ := bI_e hf
        refine bM_needs_74 (ct := c_M_wanted (d := d + 1) w8 x1 (2 : Int32) e9) (k := ?_)
        refine bM_needs_92 (kt := fun q10 => ?_) (kf := fun q10 => ?_)
        · replace hf := ite_t q10 hf
          obtain ⟨rfl, rfl⟩ := ret_e hf
          exact bM_needs_112 
        · replace hf := ite_f q10 hf
          obtain ⟨v12, w12, e12, hf⟩ := bI_e hf
          refine bM_needs_96 (ct := c_M_wanted (d := d + 1) w9 x1 (1 : Int32) e12) (k := ?_)
          refine bM_needs_105 (kt := fun q13 => ?_) (kf := fun q13 => ?_)
          · replace hf := ite_t q13 hf
            obtain ⟨rfl, rfl⟩ := ret_e hf
            exact bM_needs_112 
          · replace hf := ite_f q13 hf
            refine bM_needs_109 (k := ?_)
            obtain ⟨rfl, rfl⟩ := ret_e hf
            exact bM_needs_112 
      · replace hf := ite_f q5 hf
        refine bM_needs_49 (ct := c_M_no (d := d + 2) w4 (-6 : Int32) (vpd (i := (-(-6 : Int32))) (n := 8) (by decide))) (k := ?_)
        obtain ⟨rfl, rfl⟩ := ret_e hf
        exact bM_needs_55 
    · replace hf := ite_f q3 hf
      refine bM_needs_29 (ct := c_M_no (d := d + 2) w (-5 : Int32) (vpd (i := (-(-5 : Int32))) (n := 8) (by decide))) (k := ?_)
      obtain ⟨rfl, rfl⟩ := ret_e hf
      exact bM_needs_35 
  · replace hf := ite_f q2 hf
    refine bM_needs_10 (ct := c_M_no (d := d + 2) w (v_M_noRow w x1) (no8_M_noRow _ _)) (k := ?_)
    obtain ⟨rfl, rfl⟩ := ret_e hf
    exact bM_needs_15 
-- M_count
def f_M_count_51 (k41 : MW → Int32 → Int32 → Int32 → Int32 → Int32 → Option RT) : Nat → MW → Int32 → Int32 → Int32 → Int32 → Int32 → Int32 → Option RT
  | 0, _, _, _, _, _, _, _ => none
  | n + 1, w, x1, x2, x4, x5, x6, x7 => if x7 < 0 then (k41 w x1 x2 x4 x5 (x6 + 1)) else (bI (f_M_his w (4 : Int32) x7 x6) (fun v3 w3 => bI (f_M_isHeard w3 x1 v3) (fun v4 w4 => if v4 = 0 then (f_M_count_51 k41 n w4 x1 x2 x4 x5 x6 (x7 + (-1))) else (if x5 = (-1) then (f_M_count_51 k41 n w4 x1 x2 (x4 + 1) ((100 * x6) + x7) x6 (x7 + (-1))) else (f_M_count_51 k41 n w4 x1 x2 (x4 + 1) x5 x6 (x7 + (-1)))))))
set_option maxHeartbeats 4000000 in
theorem r_M_count_51 {d : Nat} {r : Option Value} {w' : MW} (k41 : MW → Int32 → Int32 → Int32 → Int32 → Int32 → Option RT) (hk41 : ∀ w x1 x2 x4 x5 x6, k41 w x1 x2 x4 x5 x6 = some (r, w') → Rn (d + 2) mM_count 41 [some (.ref 62), some (.int x1), some (.int x2), none, some (.int x4), some (.int x5), some (.int x6), none] [] w r w') : ∀ (n : Nat) (w : MW) (x1 : Int32) (x2 : Int32) (x4 : Int32) (x5 : Int32) (x6 : Int32) (x7 : Int32), f_M_count_51 k41 n w x1 x2 x4 x5 x6 x7 = some (r, w') → Rn (d + 2) mM_count 51 [some (.ref 62), some (.int x1), some (.int x2), none, some (.int x4), some (.int x5), some (.int x6), some (.int x7)] [] w r w' := by
  intro n
  induction n with
  | zero =>
    intro w x1 x2 x4 x5 x6 x7 hf
    cases hf
  | succ n ih =>
    intro w x1 x2 x4 x5 x6 x7 hf
    rw [f_M_count_51] at hf
    refine bM_count_51 (kt := fun q1 => ?_) (kf := fun q1 => ?_)
    · replace hf := ite_t q1 hf
      refine bM_count_101 (k := ?_)
      exact hk41 w x1 x2 x4 x5 (x6 + 1) hf
    · replace hf := ite_f q1 hf
      obtain ⟨v3, w3, e3, hf⟩ := bI_e hf
      refine bM_count_56 (ct := c_M_his (d := d + 1) w (4 : Int32) x7 x6 e3) (k := ?_)
      obtain ⟨v4, w4, e4, hf⟩ := bI_e hf
      refine bM_count_67 (ct := c_M_isHeard (d := d) w3 x1 v3 e4) (k := ?_)
      refine bM_count_70 (kt := fun q5 => ?_) (kf := fun q5 => ?_)
      · replace hf := ite_f q5 hf
        refine bM_count_76 (kt := fun q6 => ?_) (kf := fun q6 => ?_)
        · replace hf := ite_f q6 hf
          refine bM_count_95 (k := ?_)
          exact ih w4 x1 x2 (x4 + 1) x5 x6 (x7 + (-1)) hf
        · replace hf := ite_t q6 hf
          refine bM_count_85 (k := ?_)
          refine bM_count_95 (k := ?_)
          exact ih w4 x1 x2 (x4 + 1) ((100 * x6) + x7) x6 (x7 + (-1)) hf
      · replace hf := ite_t q5 hf
        refine bM_count_73 (k := ?_)
        refine bM_count_95 (k := ?_)
        exact ih w4 x1 x2 x4 x5 x6 (x7 + (-1)) hf
def f_M_count_41 : Nat → MW → Int32 → Int32 → Int32 → Int32 → Int32 → Option RT
  | 0, _, _, _, _, _, _ => none
  | n + 1, w, x1, x2, x4, x5, x6 => if 3 ≤ x6 then (if x2 = 0 then (some (some (.int x4), w)) else (some (some (.int x5), w))) else (f_M_count_51 (fun w x1 x2 x4 x5 x6 => f_M_count_41 n w x1 x2 x4 x5 x6) FU w x1 x2 x4 x5 x6 (30 : Int32))
set_option maxHeartbeats 4000000 in
theorem r_M_count_41 {d : Nat} {r : Option Value} {w' : MW} : ∀ (n : Nat) (w : MW) (x1 : Int32) (x2 : Int32) (x4 : Int32) (x5 : Int32) (x6 : Int32), f_M_count_41 n w x1 x2 x4 x5 x6 = some (r, w') → Rn (d + 2) mM_count 41 [some (.ref 62), some (.int x1), some (.int x2), none, some (.int x4), some (.int x5), some (.int x6), none] [] w r w' := by
  intro n
  induction n with
  | zero =>
    intro w x1 x2 x4 x5 x6 hf
    cases hf
  | succ n ih =>
    intro w x1 x2 x4 x5 x6 hf
    rw [f_M_count_41] at hf
    refine bM_count_41 (kt := fun q1 => ?_) (kf := fun q1 => ?_)
    · replace hf := ite_t q1 hf
      refine bM_count_107 (kt := fun q2 => ?_) (kf := fun q2 => ?_)
      · replace hf := ite_f q2 hf
        refine bM_count_116 (k := ?_)
        obtain ⟨rfl, rfl⟩ := ret_e hf
        exact bM_count_118 
      · replace hf := ite_t q2 hf
        refine bM_count_111 (k := ?_)
        obtain ⟨rfl, rfl⟩ := ret_e hf
        exact bM_count_118 
    · replace hf := ite_f q1 hf
      refine bM_count_47 (k := ?_)
      exact r_M_count_51 (fun w x1 x2 x4 x5 x6 => f_M_count_41 n w x1 x2 x4 x5 x6) ih FU w x1 x2 x4 x5 x6 (30 : Int32) hf
def f_M_count (w : MW) (x1 : Int32) (x2 : Int32) : Option RT := if 0 ≤ (v_M_noRow w x1) then (if (v_M_within w x2 (0 : Int32) (1 : Int32)) = 0 then (some (some (.int (v_M_no10 w (-5 : Int32))), u_M_no10 w (-5 : Int32))) else (f_M_count_41 FU w x1 x2 (0 : Int32) (-1 : Int32) (0 : Int32))) else (some (some (.int (v_M_no10 w (v_M_noRow w x1))), u_M_no10 w (v_M_noRow w x1)))
set_option maxHeartbeats 4000000 in
theorem c_M_count {d : Nat} {r : Option Value} {w' : MW} (w : MW) (x1 : Int32) (x2 : Int32) (hf : f_M_count w x1 x2 = some (r, w')) : Ct (d + 2) mM_count [.ref 62, .int x1, .int x2] w r w' := by
  refine eM_count ?_
  unfold f_M_count at hf
  refine bM_count_0 (ct := c_M_noRow (d := d) w x1) (k := ?_)
  refine bM_count_5 (kt := fun q2 => ?_) (kf := fun q2 => ?_)
  · replace hf := ite_t q2 hf
    refine bM_count_16 (ct := c_M_within (d := d + 1) w x2 (0 : Int32) (1 : Int32)) (k := ?_)
    refine bM_count_22 (kt := fun q4 => ?_) (kf := fun q4 => ?_)
    · replace hf := ite_f q4 hf
      refine bM_count_32 (k := ?_)
      exact r_M_count_41 FU w x1 x2 (0 : Int32) (-1 : Int32) (0 : Int32) hf
    · replace hf := ite_t q4 hf
      refine bM_count_25 (ct := c_M_no10 (d := d) w (-5 : Int32) (vpd (i := (-(-5 : Int32))) (n := 8) (by decide))) (k := ?_)
      obtain ⟨rfl, rfl⟩ := ret_e hf
      exact bM_count_31 
  · replace hf := ite_f q2 hf
    refine bM_count_10 (ct := c_M_no10 (d := d) w (v_M_noRow w x1) (no8_M_noRow _ _)) (k := ?_)
    obtain ⟨rfl, rfl⟩ := ret_e hf
    exact bM_count_15 
-- M_could
def f_M_could_21 : Nat → MW → Int32 → Int32 → Int32 → Option RT
  | 0, _, _, _, _ => none
  | n + 1, w, x1, x3, x4 => if (w.1 62 3) ≤ x4 then (some (some (.int x3), w)) else (bI (f_M_hisOf w x4) (fun v3 w3 => bI (f_M_isHeard w3 x1 v3) (fun v4 w4 => if v4 = 0 then (f_M_could_21 n w4 x1 x3 (x4 + 1)) else (f_M_could_21 n w4 x1 (x3 ||| ((1 : Int32) <<< (x4 &&& 31))) (x4 + 1)))))
set_option maxHeartbeats 4000000 in
theorem r_M_could_21 {d : Nat} {r : Option Value} {w' : MW} : ∀ (n : Nat) (w : MW) (x1 : Int32) (x3 : Int32) (x4 : Int32), f_M_could_21 n w x1 x3 x4 = some (r, w') → Rn (d + 2) mM_could 21 [some (.ref 62), some (.int x1), none, some (.int x3), some (.int x4)] [] w r w' := by
  intro n
  induction n with
  | zero =>
    intro w x1 x3 x4 hf
    cases hf
  | succ n ih =>
    intro w x1 x3 x4 hf
    rw [f_M_could_21] at hf
    refine bM_could_21 (kt := fun q1 => ?_) (kf := fun q1 => ?_)
    · replace hf := ite_t q1 hf
      obtain ⟨rfl, rfl⟩ := ret_e hf
      exact bM_could_57 
    · replace hf := ite_f q1 hf
      obtain ⟨v3, w3, e3, hf⟩ := bI_e hf
      refine bM_could_30 (ct := c_M_hisOf (d := d) w x4 e3) (k := ?_)
      obtain ⟨v4, w4, e4, hf⟩ := bI_e hf
      refine bM_could_38 (ct := c_M_isHeard (d := d) w3 x1 v3 e4) (k := ?_)
      refine bM_could_41 (kt := fun q5 => ?_) (kf := fun q5 => ?_)
      · replace hf := ite_t q5 hf
        refine bM_could_51 (k := ?_)
        exact ih w4 x1 x3 (x4 + 1) hf
      · replace hf := ite_f q5 hf
        refine bM_could_44 (k := ?_)
        refine bM_could_51 (k := ?_)
        exact ih w4 x1 (x3 ||| ((1 : Int32) <<< (x4 &&& 31))) (x4 + 1) hf
def f_M_could (w : MW) (x1 : Int32) : Option RT := if 0 ≤ (v_M_noRow w x1) then (f_M_could_21 FU w x1 (0 : Int32) (0 : Int32)) else (some (some (.int (v_M_no w (v_M_noRow w x1))), u_M_no w (v_M_noRow w x1)))
set_option maxHeartbeats 4000000 in
theorem c_M_could {d : Nat} {r : Option Value} {w' : MW} (w : MW) (x1 : Int32) (hf : f_M_could w x1 = some (r, w')) : Ct (d + 2) mM_could [.ref 62, .int x1] w r w' := by
  refine eM_could ?_
  unfold f_M_could at hf
  refine bM_could_0 (ct := c_M_noRow (d := d) w x1) (k := ?_)
  refine bM_could_5 (kt := fun q2 => ?_) (kf := fun q2 => ?_)
  · replace hf := ite_t q2 hf
    refine bM_could_16 (k := ?_)
    exact r_M_could_21 FU w x1 (0 : Int32) (0 : Int32) hf
  · replace hf := ite_f q2 hf
    refine bM_could_10 (ct := c_M_no (d := d + 1) w (v_M_noRow w x1) (no8_M_noRow _ _)) (k := ?_)
    obtain ⟨rfl, rfl⟩ := ret_e hf
    exact bM_could_15 
-- M_senses
def f_M_senses_4 : Nat → MW → Int32 → Int32 → Option RT
  | 0, _, _, _ => none
  | n + 1, w, x1, x2 => if (w.1 62 3) ≤ x2 then (some (some (.int x1), w)) else (bI (f_M_hisOf w x2) (fun v3 w3 => bI (f_M_senseOf w3 v3) (fun v4 w4 => if v4 = (-1) then (f_M_senses_4 n w4 x1 (x2 + 1)) else (f_M_senses_4 n w4 (x1 + 1) (x2 + 1)))))
set_option maxHeartbeats 4000000 in
theorem r_M_senses_4 {d : Nat} {r : Option Value} {w' : MW} : ∀ (n : Nat) (w : MW) (x1 : Int32) (x2 : Int32), f_M_senses_4 n w x1 x2 = some (r, w') → Rn (d + 2) mM_senses 4 [some (.ref 62), some (.int x1), some (.int x2)] [] w r w' := by
  intro n
  induction n with
  | zero =>
    intro w x1 x2 hf
    cases hf
  | succ n ih =>
    intro w x1 x2 hf
    rw [f_M_senses_4] at hf
    refine bM_senses_4 (kt := fun q1 => ?_) (kf := fun q1 => ?_)
    · replace hf := ite_t q1 hf
      obtain ⟨rfl, rfl⟩ := ret_e hf
      exact bM_senses_34 
    · replace hf := ite_f q1 hf
      obtain ⟨v3, w3, e3, hf⟩ := bI_e hf
      refine bM_senses_12 (ct := c_M_hisOf (d := d) w x2 e3) (k := ?_)
      obtain ⟨v4, w4, e4, hf⟩ := bI_e hf
      refine bM_senses_18 (ct := c_M_senseOf (d := d) w3 v3 e4) (k := ?_)
      refine bM_senses_21 (kt := fun q5 => ?_) (kf := fun q5 => ?_)
      · replace hf := ite_t q5 hf
        refine bM_senses_28 (k := ?_)
        exact ih w4 x1 (x2 + 1) hf
      · replace hf := ite_f q5 hf
        refine bM_senses_25 (k := ?_)
        refine bM_senses_28 (k := ?_)
        exact ih w4 (x1 + 1) (x2 + 1) hf
def f_M_senses (w : MW) : Option RT := f_M_senses_4 FU w (0 : Int32) (0 : Int32)
set_option maxHeartbeats 4000000 in
theorem c_M_senses {d : Nat} {r : Option Value} {w' : MW} (w : MW) (hf : f_M_senses w = some (r, w')) : Ct (d + 2) mM_senses [.ref 62] w r w' := by
  refine eM_senses ?_
  unfold f_M_senses at hf
  refine bM_senses_0 (k := ?_)
  exact r_M_senses_4 FU w (0 : Int32) (0 : Int32) hf
-- M_would
def f_M_would_67 : Nat → MW → Int32 → Int32 → Int32 → Int32 → Option RT
  | 0, _, _, _, _, _ => none
  | n + 1, w, x1, x2, x3, x5 => if x2 ≤ x5 then (bI (f_M_hisOf w x3) (fun v2 w2 => bI (f_M_senseOf w2 v2) (fun v3 w3 => bV (f_M_again w3 76) (fun w4 => some (some (.int v3), w4))))) else (grd (vpb ((160 * x1) + x5) 1280 = true) (grd (vpb x5 30 = true) (f_M_would_67 n (setI w 72 x5.toNatClampNeg (v_M_told w x1 x5)) x1 x2 x3 (x5 + 1))))
set_option maxHeartbeats 4000000 in
theorem r_M_would_67 {d : Nat} {r : Option Value} {w' : MW} : ∀ (n : Nat) (w : MW) (x1 : Int32) (x2 : Int32) (x3 : Int32) (x5 : Int32), f_M_would_67 n w x1 x2 x3 x5 = some (r, w') → Rn (d + 3) mM_would 67 [some (.ref 62), some (.int x1), some (.int x2), some (.int x3), none, some (.int x5)] [] w r w' := by
  intro n
  induction n with
  | zero =>
    intro w x1 x2 x3 x5 hf
    cases hf
  | succ n ih =>
    intro w x1 x2 x3 x5 hf
    rw [f_M_would_67] at hf
    refine bM_would_67 (kt := fun q1 => ?_) (kf := fun q1 => ?_)
    · replace hf := ite_t q1 hf
      obtain ⟨v2, w2, e2, hf⟩ := bI_e hf
      refine bM_would_93 (ct := c_M_hisOf (d := d + 1) w x3 e2) (k := ?_)
      obtain ⟨v3, w3, e3, hf⟩ := bI_e hf
      refine bM_would_99 (ct := c_M_senseOf (d := d + 1) w2 v2 e3) (k := ?_)
      obtain ⟨w4, e4, hf⟩ := bV_e hf
      refine bM_would_102 (y1 := 76) (ct := c_M_again (d := d + 2) w3 76 ⟨rfl, rfl⟩ e4) (k := ?_)
      obtain ⟨rfl, rfl⟩ := ret_e hf
      exact bM_would_112 
    · replace hf := ite_f q1 hf
      obtain ⟨g6_0, hf⟩ := grd_e hf
      refine bM_would_73 (y1 := 72) (ct := c_M_told (d := d + 2) w x1 x5 (vpb_ok g6_0)) (k := ?_)
      obtain ⟨g7_0, hf⟩ := grd_e hf
      refine bM_would_86 (h2 := (vpb_ok g7_0)) (k := ?_)
      exact ih (setI w 72 x5.toNatClampNeg (v_M_told w x1 x5)) x1 x2 x3 (x5 + 1) hf
def f_M_would (w : MW) (x1 : Int32) (x2 : Int32) (x3 : Int32) : Option RT := if (v_M_isMan w x3) = 0 then (some (some (.int (v_M_no10 w (-1 : Int32))), u_M_no10 w (-1 : Int32))) else (grd (0 ≤ (v_M_noRow w x1) → 0 ≤ x2 → vpb x1 8 = true) (if 0 ≤ (v_M_noSaying w x1 x2) then (bI (f_M_wrong w x1 x2) (fun v5 w5 => if v5 = (-1) then (bV (f_M_keep w5 76) (fun w7 => f_M_would_67 FU (setI w7 62 10 x2) x1 x2 x3 (0 : Int32))) else (some (some (.int (v_M_no10 w5 (-6 : Int32))), u_M_no10 w5 (-6 : Int32))))) else (some (some (.int (v_M_no10 w (v_M_noSaying w x1 x2))), u_M_no10 w (v_M_noSaying w x1 x2)))))
set_option maxHeartbeats 4000000 in
theorem c_M_would {d : Nat} {r : Option Value} {w' : MW} (w : MW) (x1 : Int32) (x2 : Int32) (x3 : Int32) (hf : f_M_would w x1 x2 x3 = some (r, w')) : Ct (d + 3) mM_would [.ref 62, .int x1, .int x2, .int x3] w r w' := by
  refine eM_would ?_
  unfold f_M_would at hf
  refine bM_would_0 (ct := c_M_isMan (d := d + 1) w x3) (k := ?_)
  refine bM_would_5 (kt := fun q2 => ?_) (kf := fun q2 => ?_)
  · replace hf := ite_f q2 hf
    obtain ⟨g3_0, hf⟩ := grd_e hf
    refine bM_would_14 (ct := c_M_noSaying (d := d) w x1 x2 (fun z0 z1 => vpb_ok (g3_0 z0 z1))) (k := ?_)
    refine bM_would_20 (kt := fun q4 => ?_) (kf := fun q4 => ?_)
    · replace hf := ite_t q4 hf
      obtain ⟨v5, w5, e5, hf⟩ := bI_e hf
      refine bM_would_34 (ct := c_M_wrong (d := d) w x1 x2 e5) (k := ?_)
      refine bM_would_40 (kt := fun q6 => ?_) (kf := fun q6 => ?_)
      · replace hf := ite_t q6 hf
        obtain ⟨w7, e7, hf⟩ := bV_e hf
        refine bM_would_51 (y1 := 76) (ct := c_M_keep (d := d + 2) w5 76 ⟨rfl, rfl⟩ e7) (k := ?_)
        refine bM_would_59 (k := ?_)
        exact r_M_would_67 FU (setI w7 62 10 x2) x1 x2 x3 (0 : Int32) hf
      · replace hf := ite_f q6 hf
        refine bM_would_44 (ct := c_M_no10 (d := d + 1) w5 (-6 : Int32) (vpd (i := (-(-6 : Int32))) (n := 8) (by decide))) (k := ?_)
        obtain ⟨rfl, rfl⟩ := ret_e hf
        exact bM_would_50 
    · replace hf := ite_f q4 hf
      refine bM_would_27 (ct := c_M_no10 (d := d + 1) w (v_M_noSaying w x1 x2) (no8_M_noSaying _ _ _)) (k := ?_)
      obtain ⟨rfl, rfl⟩ := ret_e hf
      exact bM_would_33 
  · replace hf := ite_t q2 hf
    refine bM_would_8 (ct := c_M_no10 (d := d + 1) w (-1 : Int32) (vpd (i := (-(-1 : Int32))) (n := 8) (by decide))) (k := ?_)
    obtain ⟨rfl, rfl⟩ := ret_e hf
    exact bM_would_13 
-- M_heard
def f_M_heard_15 : Nat → MW → Int32 → Int32 → Int32 → Option RT
  | 0, _, _, _, _ => none
  | n + 1, w, x2, x3, x4 => if (w.1 62 3) ≤ x4 then (some (some (.int x3), w)) else (grd (vpb x4 8 = true) (bI (f_M_senseOf w (w.1 77 x4.toNatClampNeg)) (fun v3 w3 => if v3 = (-1) then (f_M_heard_15 n w3 x2 x3 (x4 + 1)) else (grd (vpb x4 8 = true) (if v3 = x2 then (grd (vpb x4 8 = true) (f_M_heard_15 n (setI (setI w3 69 x4.toNatClampNeg v3) 70 x4.toNatClampNeg (((setI w3 69 x4.toNatClampNeg v3).1 70 x4.toNatClampNeg) + 1)) x2 (x3 + 1) (x4 + 1))) else (f_M_heard_15 n (setI w3 69 x4.toNatClampNeg v3) x2 x3 (x4 + 1)))))))
set_option maxHeartbeats 4000000 in
theorem r_M_heard_15 {d : Nat} {r : Option Value} {w' : MW} : ∀ (n : Nat) (w : MW) (x2 : Int32) (x3 : Int32) (x4 : Int32), f_M_heard_15 n w x2 x3 x4 = some (r, w') → Rn (d + 3) mM_heard 15 [some (.ref 62), none, some (.int x2), some (.int x3), some (.int x4), none] [] w r w' := by
  intro n
  induction n with
  | zero =>
    intro w x2 x3 x4 hf
    cases hf
  | succ n ih =>
    intro w x2 x3 x4 hf
    rw [f_M_heard_15] at hf
    refine bM_heard_15 (kt := fun q1 => ?_) (kf := fun q1 => ?_)
    · replace hf := ite_t q1 hf
      obtain ⟨rfl, rfl⟩ := ret_e hf
      exact bM_heard_84 
    · replace hf := ite_f q1 hf
      obtain ⟨g3_0, hf⟩ := grd_e hf
      obtain ⟨v3, w3, e3, hf⟩ := bI_e hf
      refine bM_heard_24 (y1 := 77) (h3 := (vpb_ok g3_0)) (ct := c_M_senseOf (d := d + 1) w (w.1 77 x4.toNatClampNeg) e3) (k := ?_)
      refine bM_heard_35 (kt := fun q4 => ?_) (kf := fun q4 => ?_)
      · replace hf := ite_f q4 hf
        obtain ⟨g5_0, hf⟩ := grd_e hf
        refine bM_heard_46 (y1 := 69) (h3 := (vpb_ok g5_0)) (kt := fun q5 => ?_) (kf := fun q5 => ?_)
        · replace hf := ite_t q5 hf
          obtain ⟨g6_0, hf⟩ := grd_e hf
          refine bM_heard_64 (y1 := 70) (h3 := (vpb_ok g6_0)) (h5 := (vpb_ok g6_0)) (k := ?_)
          refine bM_heard_78 (k := ?_)
          exact ih (setI (setI w3 69 x4.toNatClampNeg v3) 70 x4.toNatClampNeg (((setI w3 69 x4.toNatClampNeg v3).1 70 x4.toNatClampNeg) + 1)) x2 (x3 + 1) (x4 + 1) hf
        · replace hf := ite_f q5 hf
          refine bM_heard_61 (k := ?_)
          refine bM_heard_78 (k := ?_)
          exact ih (setI w3 69 x4.toNatClampNeg v3) x2 x3 (x4 + 1) hf
      · replace hf := ite_t q4 hf
        refine bM_heard_43 (k := ?_)
        refine bM_heard_78 (k := ?_)
        exact ih w3 x2 x3 (x4 + 1) hf
def f_M_heard (w : MW) (x1 : Int32) : Option RT := bI (f_M_wholeOf w ) (fun v1 w1 => bV (f_M_goOn w1 x1) (fun w2 => f_M_heard_15 FU w2 v1 (0 : Int32) (0 : Int32)))
set_option maxHeartbeats 4000000 in
theorem c_M_heard {d : Nat} {r : Option Value} {w' : MW} (w : MW) (x1 : Int32) (hf : f_M_heard w x1 = some (r, w')) : Ct (d + 3) mM_heard [.ref 62, .int x1] w r w' := by
  refine eM_heard ?_
  unfold f_M_heard at hf
  obtain ⟨v1, w1, e1, hf⟩ := bI_e hf
  refine bM_heard_0 (ct := c_M_wholeOf (d := d) w e1) (k := ?_)
  obtain ⟨w2, e2, hf⟩ := bV_e hf
  refine bM_heard_4 (ct := c_M_goOn (d := d) w1 x1 e2) (k := ?_)
  refine bM_heard_12 (k := ?_)
  exact r_M_heard_15 FU w2 v1 (0 : Int32) (0 : Int32) hf
-- M_reign
def f_M_reign_41 (k21 : MW → Int32 → Int32 → Int32 → Option RT) : Nat → MW → Int32 → Int32 → Int32 → Int32 → Option RT
  | 0, _, _, _, _, _ => none
  | n + 1, w, x1, x2, x3, x4 => if (w.1 62 10) ≤ x4 then (bI (f_M_heard w (0 : Int32)) (fun v2 w2 => k21 w2 x1 (x2 + v2) (x3 + 1))) else (grd (¬ (40 : Int32) = 0) (grd (vpb x4 30 = true) (f_M_reign_41 k21 n (setI (u_M_draw w (40 : Int32)) 72 x4.toNatClampNeg (v_M_draw w (40 : Int32))) x1 x2 x3 (x4 + 1))))
set_option maxHeartbeats 4000000 in
theorem r_M_reign_41 {d : Nat} {r : Option Value} {w' : MW} (k21 : MW → Int32 → Int32 → Int32 → Option RT) (hk21 : ∀ w x1 x2 x3, k21 w x1 x2 x3 = some (r, w') → Rn (d + 4) mM_reign 21 [some (.ref 62), some (.int x1), some (.int x2), some (.int x3), none] [] w r w') : ∀ (n : Nat) (w : MW) (x1 : Int32) (x2 : Int32) (x3 : Int32) (x4 : Int32), f_M_reign_41 k21 n w x1 x2 x3 x4 = some (r, w') → Rn (d + 4) mM_reign 41 [some (.ref 62), some (.int x1), some (.int x2), some (.int x3), some (.int x4)] [] w r w' := by
  intro n
  induction n with
  | zero =>
    intro w x1 x2 x3 x4 hf
    cases hf
  | succ n ih =>
    intro w x1 x2 x3 x4 hf
    rw [f_M_reign_41] at hf
    refine bM_reign_41 (kt := fun q1 => ?_) (kf := fun q1 => ?_)
    · replace hf := ite_t q1 hf
      obtain ⟨v2, w2, e2, hf⟩ := bI_e hf
      refine bM_reign_69 (ct := c_M_heard (d := d) w (0 : Int32) e2) (k := ?_)
      refine bM_reign_75 (k := ?_)
      exact hk21 w2 x1 (x2 + v2) (x3 + 1) hf
    · replace hf := ite_f q1 hf
      obtain ⟨g4_0, hf⟩ := grd_e hf
      refine bM_reign_50 (y1 := 72) (ct := c_M_draw (d := d + 3) w (40 : Int32) g4_0) (k := ?_)
      obtain ⟨g5_0, hf⟩ := grd_e hf
      refine bM_reign_62 (h2 := (vpb_ok g5_0)) (k := ?_)
      exact ih (setI (u_M_draw w (40 : Int32)) 72 x4.toNatClampNeg (v_M_draw w (40 : Int32))) x1 x2 x3 (x4 + 1) hf
def f_M_reign_21 : Nat → MW → Int32 → Int32 → Int32 → Option RT
  | 0, _, _, _, _ => none
  | n + 1, w, x1, x2, x3 => if x1 ≤ x3 then (some (some (.int x2), w)) else (grd (¬ (30 : Int32) = 0) (f_M_reign_41 (fun w x1 x2 x3 => f_M_reign_21 n w x1 x2 x3) FU (setI (u_M_draw w (30 : Int32)) 62 10 (1 + (v_M_draw w (30 : Int32)))) x1 x2 x3 (0 : Int32)))
set_option maxHeartbeats 4000000 in
theorem r_M_reign_21 {d : Nat} {r : Option Value} {w' : MW} : ∀ (n : Nat) (w : MW) (x1 : Int32) (x2 : Int32) (x3 : Int32), f_M_reign_21 n w x1 x2 x3 = some (r, w') → Rn (d + 4) mM_reign 21 [some (.ref 62), some (.int x1), some (.int x2), some (.int x3), none] [] w r w' := by
  intro n
  induction n with
  | zero =>
    intro w x1 x2 x3 hf
    cases hf
  | succ n ih =>
    intro w x1 x2 x3 hf
    rw [f_M_reign_21] at hf
    refine bM_reign_21 (kt := fun q1 => ?_) (kf := fun q1 => ?_)
    · replace hf := ite_t q1 hf
      obtain ⟨rfl, rfl⟩ := ret_e hf
      exact bM_reign_83 
    · replace hf := ite_f q1 hf
      obtain ⟨g3_0, hf⟩ := grd_e hf
      refine bM_reign_26 (ct := c_M_draw (d := d + 3) w (30 : Int32) g3_0) (k := ?_)
      refine bM_reign_34 (k := ?_)
      exact r_M_reign_41 (fun w x1 x2 x3 => f_M_reign_21 n w x1 x2 x3) ih FU (setI (u_M_draw w (30 : Int32)) 62 10 (1 + (v_M_draw w (30 : Int32)))) x1 x2 x3 (0 : Int32) hf
def f_M_reign (w : MW) (x1 : Int32) : Option RT := if (v_M_within w x1 (1 : Int32) (60 : Int32)) = 0 then (some (some (.int (v_M_no w (-6 : Int32))), u_M_no w (-6 : Int32))) else (f_M_reign_21 FU w x1 (0 : Int32) (0 : Int32))
set_option maxHeartbeats 4000000 in
theorem c_M_reign {d : Nat} {r : Option Value} {w' : MW} (w : MW) (x1 : Int32) (hf : f_M_reign w x1 = some (r, w')) : Ct (d + 4) mM_reign [.ref 62, .int x1] w r w' := by
  refine eM_reign ?_
  unfold f_M_reign at hf
  refine bM_reign_0 (ct := c_M_within (d := d + 3) w x1 (1 : Int32) (60 : Int32)) (k := ?_)
  refine bM_reign_7 (kt := fun q2 => ?_) (kf := fun q2 => ?_)
  · replace hf := ite_f q2 hf
    refine bM_reign_17 (k := ?_)
    exact r_M_reign_21 FU w x1 (0 : Int32) (0 : Int32) hf
  · replace hf := ite_t q2 hf
    refine bM_reign_10 (ct := c_M_no (d := d + 3) w (-6 : Int32) (vpd (i := (-(-6 : Int32))) (n := 8) (by decide))) (k := ?_)
    obtain ⟨rfl, rfl⟩ := ret_e hf
    exact bM_reign_16 
