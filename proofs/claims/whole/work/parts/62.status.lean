def sumF (g : Nat → Int32 → Int32) : Nat → Nat → Int32 → Int32
  | 0, _, c => c
  | m + 1, i, c => sumF g m (i + 1) (g i c)
theorem sumF_s {g : Nat → Int32 → Int32} {n i : Nat} {c : Int32} (h : i < n) : sumF g (n - i) i c = sumF g (n - (i + 1)) (i + 1) (g i c) := by
  rw [show n - i = (n - (i + 1)) + 1 by omega]
  rfl
theorem X_meetings {w : MW} {n L : Nat} {K A F : Nat → Nat} {M S : Nat → Int32} (rx : RX 1 w n L K A F M S) (hn : n ≤ 8) : f_Ct_meetings w 1 = some (some (.int (sumF (fun i c => c + pc (M i)) n 0 (nI 0) / nI 2)), w) := by
  unfold f_Ct_meetings
  have h : EI (f_Ct_meetings_4 1 FU w (nI 0) (nI 0)) (fun v w' => v = sumF (fun i c => c + pc (M i)) n 0 (nI 0) / nI 2 ∧ w' = w) := by
    refine lp (σ := Int32) (F := fun m c i => f_Ct_meetings_4 1 m w c (nI i)) (fun c i => sumF (fun i c => c + pc (M i)) (n - i) i c = sumF (fun i c => c + pc (M i)) n 0 (nI 0)) n 0 (nI 0) (by rw [Nat.sub_zero]) (by omega) (by omega) ?_ ?_
    · intro m c hi
      show Ev (f_Ct_meetings_4 1 (m + 1) w c (nI n)) _
      rw [f_Ct_meetings_4, rx.1]
      simp (disch := omega) only [k0, k1, k2, k3, k4, k5, k6, k7, k8, k9, k10, k12, k20, k30, k31, k40, k99, k160, ite_self, nI_add, nI_leI, nI_ltI, nI_eq, nI_clamp, nI_sub', nI_mul, vpb_n, eq_self, implies_true, grd_t, grd_i, if_pos, if_neg, bI_k, bV_k, bx0, bx1, mh0, mh1, rd_s, rd_o, rd_j, rd_2k, rdL_1k, ↓reduceIte, Bool.false_eq_true, Bool.true_eq_false, Nat.add_eq, Nat.zero_add, Nat.add_zero, not_true_eq_false, not_false_eq_true]
      rw [Nat.sub_self] at hi
      exact Ev.i ⟨by rw [← hi]; rfl, rfl⟩
    · intro m c i _ hi hinv kk
      rw [sumF_s hi] at hinv
      show Ev (f_Ct_meetings_4 1 (m + 1) w c (nI i)) _
      have e := (rx.2.2.1 i hi).2.2.2
      rw [f_Ct_meetings_4, rx.1, bk]
      simp (disch := omega) only [k0, k1, k2, k3, k4, k5, k6, k7, k8, k9, k10, k12, k20, k30, k31, k40, k99, k160, ite_self, nI_add, nI_leI, nI_ltI, nI_eq, nI_clamp, nI_sub', nI_mul, vpb_n, eq_self, implies_true, grd_t, grd_i, if_pos, if_neg, bI_k, bV_k, bx0, bx1, mh0, mh1, rd_s, rd_o, rd_j, rd_2k, rdL_1k, ↓reduceIte, Bool.false_eq_true, Bool.true_eq_false, Nat.add_eq, Nat.zero_add, Nat.add_zero, not_true_eq_false, not_false_eq_true, e]
      exact kk _ hinv
  obtain ⟨r, w', e, v, rfl, rfl, rfl⟩ := h
  exact e
theorem M_meetings {w : MW} {n L : Nat} {K A F : Nat → Nat} {M S : Nat → Int32} (rm : RM w n L K A F M S) (hn : n ≤ 8) : f_M_status_56 FU w (nI 0) (nI 0) = some (some (.int (sumF (fun i c => c + pc (M i)) n 0 (nI 0) / nI 2)), w) := by
  have h : EI (f_M_status_56 FU w (nI 0) (nI 0)) (fun v w' => v = sumF (fun i c => c + pc (M i)) n 0 (nI 0) / nI 2 ∧ w' = w) := by
    refine lp (σ := Int32) (F := fun m c i => f_M_status_56 m w c (nI i)) (fun c i => sumF (fun i c => c + pc (M i)) (n - i) i c = sumF (fun i c => c + pc (M i)) n 0 (nI 0)) n 0 (nI 0) (by rw [Nat.sub_zero]) (by omega) (by omega) ?_ ?_
    · intro m c hi
      show Ev (f_M_status_56 (m + 1) w c (nI n)) _
      rw [f_M_status_56, rm.1]
      simp (disch := omega) only [k0, k1, k2, k3, k4, k5, k6, k7, k8, k9, k10, k12, k20, k30, k31, k40, k99, k160, ite_self, nI_add, nI_leI, nI_ltI, nI_eq, nI_clamp, nI_sub', nI_mul, vpb_n, eq_self, implies_true, grd_t, grd_i, if_pos, if_neg, bI_k, bV_k, bx0, bx1, mh0, mh1, rd_s, rd_o, rd_j, rd_2k, rdL_1k, ↓reduceIte, Bool.false_eq_true, Bool.true_eq_false, Nat.add_eq, Nat.zero_add, Nat.add_zero, not_true_eq_false, not_false_eq_true]
      rw [Nat.sub_self] at hi
      exact Ev.i ⟨by rw [← hi]; rfl, rfl⟩
    · intro m c i _ hi hinv kk
      rw [sumF_s hi] at hinv
      show Ev (f_M_status_56 (m + 1) w c (nI i)) _
      have e := (rm.2.2.1 i hi).2.2.2
      rw [f_M_status_56, rm.1, bk]
      simp (disch := omega) only [k0, k1, k2, k3, k4, k5, k6, k7, k8, k9, k10, k12, k20, k30, k31, k40, k99, k160, ite_self, nI_add, nI_leI, nI_ltI, nI_eq, nI_clamp, nI_sub', nI_mul, vpb_n, eq_self, implies_true, grd_t, grd_i, if_pos, if_neg, bI_k, bV_k, bx0, bx1, mh0, mh1, rd_s, rd_o, rd_j, rd_2k, rdL_1k, ↓reduceIte, Bool.false_eq_true, Bool.true_eq_false, Nat.add_eq, Nat.zero_add, Nat.add_zero, not_true_eq_false, not_false_eq_true, e]
      exact kk _ hinv
  obtain ⟨r, w', e, v, rfl, rfl, rfl⟩ := h
  exact e
theorem X_allHits {w : MW} {n : Nat} {B H : Nat → Int32} (e1 : w.1 1 1 = nI n) (hn : n ≤ 8) (xb : XB w n B H) : f_Ct_allHits w 1 = some (some (.int (sumF (fun i c => c + H i) n 0 (nI 0))), w) := by
  unfold f_Ct_allHits
  have h : EI (f_Ct_allHits_4 1 FU w (nI 0) (nI 0)) (fun v w' => v = sumF (fun i c => c + H i) n 0 (nI 0) ∧ w' = w) := by
    refine lp (σ := Int32) (F := fun m c i => f_Ct_allHits_4 1 m w c (nI i)) (fun c i => sumF (fun i c => c + H i) (n - i) i c = sumF (fun i c => c + H i) n 0 (nI 0)) n 0 (nI 0) (by rw [Nat.sub_zero]) (by omega) (by omega) ?_ ?_
    · intro m c hi
      show Ev (f_Ct_allHits_4 1 (m + 1) w c (nI n)) _
      rw [f_Ct_allHits_4, e1]
      simp (disch := omega) only [k0, k1, k2, k3, k4, k5, k6, k7, k8, k9, k10, k12, k20, k30, k31, k40, k99, k160, ite_self, nI_add, nI_leI, nI_ltI, nI_eq, nI_clamp, nI_sub', nI_mul, vpb_n, eq_self, implies_true, grd_t, grd_i, if_pos, if_neg, bI_k, bV_k, bx0, bx1, mh0, mh1, rd_s, rd_o, rd_j, rd_2k, rdL_1k, ↓reduceIte, Bool.false_eq_true, Bool.true_eq_false, Nat.add_eq, Nat.zero_add, Nat.add_zero, not_true_eq_false, not_false_eq_true]
      rw [Nat.sub_self] at hi
      exact Ev.i ⟨hi, rfl⟩
    · intro m c i _ hi hinv kk
      rw [sumF_s hi] at hinv
      show Ev (f_Ct_allHits_4 1 (m + 1) w c (nI i)) _
      have e := (xb i hi).2
      rw [f_Ct_allHits_4, e1]
      simp (disch := omega) only [k0, k1, k2, k3, k4, k5, k6, k7, k8, k9, k10, k12, k20, k30, k31, k40, k99, k160, ite_self, nI_add, nI_leI, nI_ltI, nI_eq, nI_clamp, nI_sub', nI_mul, vpb_n, eq_self, implies_true, grd_t, grd_i, if_pos, if_neg, bI_k, bV_k, bx0, bx1, mh0, mh1, rd_s, rd_o, rd_j, rd_2k, rdL_1k, ↓reduceIte, Bool.false_eq_true, Bool.true_eq_false, Nat.add_eq, Nat.zero_add, Nat.add_zero, not_true_eq_false, not_false_eq_true, e]
      exact kk _ hinv
  obtain ⟨r, w', e, v, rfl, rfl, rfl⟩ := h
  exact e
theorem M_allHits {w : MW} {n : Nat} {B H : Nat → Int32} (e1 : w.1 62 3 = nI n) (hn : n ≤ 8) (mb : MB w n B H) : f_M_status_88 FU w (nI 0) (nI 0) = some (some (.int (sumF (fun i c => c + H i) n 0 (nI 0))), w) := by
  have h : EI (f_M_status_88 FU w (nI 0) (nI 0)) (fun v w' => v = sumF (fun i c => c + H i) n 0 (nI 0) ∧ w' = w) := by
    refine lp (σ := Int32) (F := fun m c i => f_M_status_88 m w c (nI i)) (fun c i => sumF (fun i c => c + H i) (n - i) i c = sumF (fun i c => c + H i) n 0 (nI 0)) n 0 (nI 0) (by rw [Nat.sub_zero]) (by omega) (by omega) ?_ ?_
    · intro m c hi
      show Ev (f_M_status_88 (m + 1) w c (nI n)) _
      rw [f_M_status_88, e1]
      simp (disch := omega) only [k0, k1, k2, k3, k4, k5, k6, k7, k8, k9, k10, k12, k20, k30, k31, k40, k99, k160, ite_self, nI_add, nI_leI, nI_ltI, nI_eq, nI_clamp, nI_sub', nI_mul, vpb_n, eq_self, implies_true, grd_t, grd_i, if_pos, if_neg, bI_k, bV_k, bx0, bx1, mh0, mh1, rd_s, rd_o, rd_j, rd_2k, rdL_1k, ↓reduceIte, Bool.false_eq_true, Bool.true_eq_false, Nat.add_eq, Nat.zero_add, Nat.add_zero, not_true_eq_false, not_false_eq_true]
      rw [Nat.sub_self] at hi
      exact Ev.i ⟨hi, rfl⟩
    · intro m c i _ hi hinv kk
      rw [sumF_s hi] at hinv
      show Ev (f_M_status_88 (m + 1) w c (nI i)) _
      have e := (mb i hi).2
      rw [f_M_status_88, e1]
      simp (disch := omega) only [k0, k1, k2, k3, k4, k5, k6, k7, k8, k9, k10, k12, k20, k30, k31, k40, k99, k160, ite_self, nI_add, nI_leI, nI_ltI, nI_eq, nI_clamp, nI_sub', nI_mul, vpb_n, eq_self, implies_true, grd_t, grd_i, if_pos, if_neg, bI_k, bV_k, bx0, bx1, mh0, mh1, rd_s, rd_o, rd_j, rd_2k, rdL_1k, ↓reduceIte, Bool.false_eq_true, Bool.true_eq_false, Nat.add_eq, Nat.zero_add, Nat.add_zero, not_true_eq_false, not_false_eq_true, e]
      exact kk _ hinv
  obtain ⟨r, w', e, v, rfl, rfl, rfl⟩ := h
  exact e
theorem X_believers {w : MW} {n : Nat} {B H : Nat → Int32} (e1 : w.1 1 1 = nI n) (hn : n ≤ 8) (xb : XB w n B H) : f_Ct_believers w 1 = some (some (.int (sumF (fun i c => if B i = -nI 1 then c else c + nI 1) n 0 (nI 0))), w) := by
  unfold f_Ct_believers
  have h : EI (f_Ct_believers_4 1 FU w (nI 0) (nI 0)) (fun v w' => v = sumF (fun i c => if B i = -nI 1 then c else c + nI 1) n 0 (nI 0) ∧ w' = w) := by
    refine lp (σ := Int32) (F := fun m c i => f_Ct_believers_4 1 m w c (nI i)) (fun c i => sumF (fun i c => if B i = -nI 1 then c else c + nI 1) (n - i) i c = sumF (fun i c => if B i = -nI 1 then c else c + nI 1) n 0 (nI 0)) n 0 (nI 0) (by rw [Nat.sub_zero]) (by omega) (by omega) ?_ ?_
    · intro m c hi
      show Ev (f_Ct_believers_4 1 (m + 1) w c (nI n)) _
      rw [f_Ct_believers_4, e1]
      simp (disch := omega) only [k0, k1, k2, k3, k4, k5, k6, k7, k8, k9, k10, k12, k20, k30, k31, k40, k99, k160, ite_self, nI_add, nI_leI, nI_ltI, nI_eq, nI_clamp, nI_sub', nI_mul, vpb_n, eq_self, implies_true, grd_t, grd_i, if_pos, if_neg, bI_k, bV_k, bx0, bx1, mh0, mh1, rd_s, rd_o, rd_j, rd_2k, rdL_1k, ↓reduceIte, Bool.false_eq_true, Bool.true_eq_false, Nat.add_eq, Nat.zero_add, Nat.add_zero, not_true_eq_false, not_false_eq_true]
      rw [Nat.sub_self] at hi
      exact Ev.i ⟨hi, rfl⟩
    · intro m c i _ hi hinv kk
      rw [sumF_s hi] at hinv
      replace hinv : sumF (fun i c => if B i = -nI 1 then c else c + nI 1) (n - (i + 1)) (i + 1) (if B i = -nI 1 then c else c + nI 1) = _ := hinv
      show Ev (f_Ct_believers_4 1 (m + 1) w c (nI i)) _
      have e := (xb i hi).1
      rw [f_Ct_believers_4, e1]
      by_cases q : B i = -nI 1
      · rw [if_pos q] at hinv
        simp (disch := omega) only [k0, k1, k2, k3, k4, k5, k6, k7, k8, k9, k10, k12, k20, k30, k31, k40, k99, k160, ite_self, nI_add, nI_leI, nI_ltI, nI_eq, nI_clamp, nI_sub', nI_mul, vpb_n, eq_self, implies_true, grd_t, grd_i, if_pos, if_neg, bI_k, bV_k, bx0, bx1, mh0, mh1, rd_s, rd_o, rd_j, rd_2k, rdL_1k, ↓reduceIte, Bool.false_eq_true, Bool.true_eq_false, Nat.add_eq, Nat.zero_add, Nat.add_zero, not_true_eq_false, not_false_eq_true, e, q]
        exact kk _ hinv
      · rw [if_neg q] at hinv
        simp (disch := omega) only [k0, k1, k2, k3, k4, k5, k6, k7, k8, k9, k10, k12, k20, k30, k31, k40, k99, k160, ite_self, nI_add, nI_leI, nI_ltI, nI_eq, nI_clamp, nI_sub', nI_mul, vpb_n, eq_self, implies_true, grd_t, grd_i, if_pos, if_neg, bI_k, bV_k, bx0, bx1, mh0, mh1, rd_s, rd_o, rd_j, rd_2k, rdL_1k, ↓reduceIte, Bool.false_eq_true, Bool.true_eq_false, Nat.add_eq, Nat.zero_add, Nat.add_zero, not_true_eq_false, not_false_eq_true, e, q]
        exact kk _ hinv
  obtain ⟨r, w', e, v, rfl, rfl, rfl⟩ := h
  exact e
theorem M_believers {w : MW} {n : Nat} {B H : Nat → Int32} (e1 : w.1 62 3 = nI n) (hn : n ≤ 8) (mb : MB w n B H) : f_M_status_115 FU w (nI 0) (nI 0) = some (some (.int (sumF (fun i c => if B i = -nI 1 then c else c + nI 1) n 0 (nI 0))), w) := by
  have h : EI (f_M_status_115 FU w (nI 0) (nI 0)) (fun v w' => v = sumF (fun i c => if B i = -nI 1 then c else c + nI 1) n 0 (nI 0) ∧ w' = w) := by
    refine lp (σ := Int32) (F := fun m c i => f_M_status_115 m w c (nI i)) (fun c i => sumF (fun i c => if B i = -nI 1 then c else c + nI 1) (n - i) i c = sumF (fun i c => if B i = -nI 1 then c else c + nI 1) n 0 (nI 0)) n 0 (nI 0) (by rw [Nat.sub_zero]) (by omega) (by omega) ?_ ?_
    · intro m c hi
      show Ev (f_M_status_115 (m + 1) w c (nI n)) _
      rw [f_M_status_115, e1]
      simp (disch := omega) only [k0, k1, k2, k3, k4, k5, k6, k7, k8, k9, k10, k12, k20, k30, k31, k40, k99, k160, ite_self, nI_add, nI_leI, nI_ltI, nI_eq, nI_clamp, nI_sub', nI_mul, vpb_n, eq_self, implies_true, grd_t, grd_i, if_pos, if_neg, bI_k, bV_k, bx0, bx1, mh0, mh1, rd_s, rd_o, rd_j, rd_2k, rdL_1k, ↓reduceIte, Bool.false_eq_true, Bool.true_eq_false, Nat.add_eq, Nat.zero_add, Nat.add_zero, not_true_eq_false, not_false_eq_true]
      rw [Nat.sub_self] at hi
      exact Ev.i ⟨hi, rfl⟩
    · intro m c i _ hi hinv kk
      rw [sumF_s hi] at hinv
      replace hinv : sumF (fun i c => if B i = -nI 1 then c else c + nI 1) (n - (i + 1)) (i + 1) (if B i = -nI 1 then c else c + nI 1) = _ := hinv
      show Ev (f_M_status_115 (m + 1) w c (nI i)) _
      have e := (mb i hi).1
      rw [f_M_status_115, e1]
      by_cases q : B i = -nI 1
      · rw [if_pos q] at hinv
        simp (disch := omega) only [k0, k1, k2, k3, k4, k5, k6, k7, k8, k9, k10, k12, k20, k30, k31, k40, k99, k160, ite_self, nI_add, nI_leI, nI_ltI, nI_eq, nI_clamp, nI_sub', nI_mul, vpb_n, eq_self, implies_true, grd_t, grd_i, if_pos, if_neg, bI_k, bV_k, bx0, bx1, mh0, mh1, rd_s, rd_o, rd_j, rd_2k, rdL_1k, ↓reduceIte, Bool.false_eq_true, Bool.true_eq_false, Nat.add_eq, Nat.zero_add, Nat.add_zero, not_true_eq_false, not_false_eq_true, e, q]
        exact kk _ hinv
      · rw [if_neg q] at hinv
        simp (disch := omega) only [k0, k1, k2, k3, k4, k5, k6, k7, k8, k9, k10, k12, k20, k30, k31, k40, k99, k160, ite_self, nI_add, nI_leI, nI_ltI, nI_eq, nI_clamp, nI_sub', nI_mul, vpb_n, eq_self, implies_true, grd_t, grd_i, if_pos, if_neg, bI_k, bV_k, bx0, bx1, mh0, mh1, rd_s, rd_o, rd_j, rd_2k, rdL_1k, ↓reduceIte, Bool.false_eq_true, Bool.true_eq_false, Nat.add_eq, Nat.zero_add, Nat.add_zero, not_true_eq_false, not_false_eq_true, e, q]
        exact kk _ hinv
  obtain ⟨r, w', e, v, rfl, rfl, rfl⟩ := h
  exact e
theorem k17 : (17 : Int32) = nI 17 := by decide
theorem k11 : (11 : Int32) = nI 11 := by decide
theorem sim_status (x1 : Int32) : SIM (fun w => f_X_status w x1) (fun w => f_M_status w x1) := by
  intro sc N w h
  have h0 := h
  obtain ⟨⟨n, L, K, A, F, M, S, g1, g2⟩, g3, g4, g5, g6⟩ := h0
  have hn := g1.2.2.1.1
  obtain ⟨t, t0, t1, t2, t3⟩ := g4
  have e1 := g1.1.1
  have e2 := g1.1.2.1
  have e3 := g1.2.1.1
  have e4 := g1.2.1.2.1
  have e5 := g1.2.2.2.2.2
  have xb : XB w n (w.1 69) (w.1 70) := g1.2.2.2.2.1
  have mb : MB w n (w.1 69) (w.1 70) := fun _ _ => ⟨rfl, rfl⟩
  show EI (f_X_status w x1) _
  unfold f_X_status
  rw [X_meetings g1.1 hn, X_allHits e1 hn xb, X_believers e1 hn xb]
  have eM : f_M_status w x1 = f_M_status w x1 := rfl
  rw [show (fun v w1 => EI ((fun w => f_M_status w x1) w1) fun v' w2 => v' = v ∧ Inv sc N w2) = (fun v w1 => EI (f_M_status w1 x1) fun v' w2 => v' = v ∧ Inv sc N w2) from rfl]
  by_cases c0 : x1 = nI 0
  · subst c0
    simp (disch := omega) only [k0, k1, k2, k3, k4, k5, k6, k7, k8, k9, k10, k12, k20, k30, k31, k40, k99, k160, ite_self, nI_add, nI_leI, nI_ltI, nI_eq, nI_clamp, nI_sub', nI_mul, vpb_n, eq_self, implies_true, grd_t, grd_i, if_pos, if_neg, bI_k, bV_k, bx0, bx1, mh0, mh1, rd_s, rd_o, rd_j, rd_2k, rdL_1k, ↓reduceIte, Bool.false_eq_true, Bool.true_eq_false, Nat.add_eq, Nat.zero_add, Nat.add_zero, not_true_eq_false, not_false_eq_true, e1]
    refine Ev.i ?_
    unfold f_M_status
    simp (disch := omega) only [k0, k1, k2, k3, k4, k5, k6, k7, k8, k9, k10, k12, k20, k30, k31, k40, k99, k160, ite_self, nI_add, nI_leI, nI_ltI, nI_eq, nI_clamp, nI_sub', nI_mul, vpb_n, eq_self, implies_true, grd_t, grd_i, if_pos, if_neg, bI_k, bV_k, bx0, bx1, mh0, mh1, rd_s, rd_o, rd_j, rd_2k, rdL_1k, ↓reduceIte, Bool.false_eq_true, Bool.true_eq_false, Nat.add_eq, Nat.zero_add, Nat.add_zero, not_true_eq_false, not_false_eq_true, e3]
    exact Ev.i ⟨rfl, h⟩
  by_cases c1 : x1 = nI 1
  · subst c1
    simp (disch := omega) only [k0, k1, k2, k3, k4, k5, k6, k7, k8, k9, k10, k12, k20, k30, k31, k40, k99, k160, ite_self, nI_add, nI_leI, nI_ltI, nI_eq, nI_clamp, nI_sub', nI_mul, vpb_n, eq_self, implies_true, grd_t, grd_i, if_pos, if_neg, bI_k, bV_k, bx0, bx1, mh0, mh1, rd_s, rd_o, rd_j, rd_2k, rdL_1k, ↓reduceIte, Bool.false_eq_true, Bool.true_eq_false, Nat.add_eq, Nat.zero_add, Nat.add_zero, not_true_eq_false, not_false_eq_true, e2]
    refine Ev.i ?_
    unfold f_M_status
    simp (disch := omega) only [k0, k1, k2, k3, k4, k5, k6, k7, k8, k9, k10, k12, k20, k30, k31, k40, k99, k160, ite_self, nI_add, nI_leI, nI_ltI, nI_eq, nI_clamp, nI_sub', nI_mul, vpb_n, eq_self, implies_true, grd_t, grd_i, if_pos, if_neg, bI_k, bV_k, bx0, bx1, mh0, mh1, rd_s, rd_o, rd_j, rd_2k, rdL_1k, ↓reduceIte, Bool.false_eq_true, Bool.true_eq_false, Nat.add_eq, Nat.zero_add, Nat.add_zero, not_true_eq_false, not_false_eq_true, e4]
    exact Ev.i ⟨rfl, h⟩
  by_cases c2 : x1 = nI 2
  · subst c2
    simp (disch := omega) only [k0, k1, k2, k3, k4, k5, k6, k7, k8, k9, k10, k12, k20, k30, k31, k40, k99, k160, ite_self, nI_add, nI_leI, nI_ltI, nI_eq, nI_clamp, nI_sub', nI_mul, vpb_n, eq_self, implies_true, grd_t, grd_i, if_pos, if_neg, bI_k, bV_k, bx0, bx1, mh0, mh1, rd_s, rd_o, rd_j, rd_2k, rdL_1k, ↓reduceIte, Bool.false_eq_true, Bool.true_eq_false, Nat.add_eq, Nat.zero_add, Nat.add_zero, not_true_eq_false, not_false_eq_true]
    refine Ev.i ?_
    unfold f_M_status
    simp (disch := omega) only [k0, k1, k2, k3, k4, k5, k6, k7, k8, k9, k10, k12, k20, k30, k31, k40, k99, k160, ite_self, nI_add, nI_leI, nI_ltI, nI_eq, nI_clamp, nI_sub', nI_mul, vpb_n, eq_self, implies_true, grd_t, grd_i, if_pos, if_neg, bI_k, bV_k, bx0, bx1, mh0, mh1, rd_s, rd_o, rd_j, rd_2k, rdL_1k, ↓reduceIte, Bool.false_eq_true, Bool.true_eq_false, Nat.add_eq, Nat.zero_add, Nat.add_zero, not_true_eq_false, not_false_eq_true]
    rw [M_meetings g1.2.1 hn]
    exact Ev.i ⟨rfl, h⟩
  by_cases c3 : x1 = nI 3
  · subst c3
    simp (disch := omega) only [k0, k1, k2, k3, k4, k5, k6, k7, k8, k9, k10, k12, k20, k30, k31, k40, k99, k160, ite_self, nI_add, nI_leI, nI_ltI, nI_eq, nI_clamp, nI_sub', nI_mul, vpb_n, eq_self, implies_true, grd_t, grd_i, if_pos, if_neg, bI_k, bV_k, bx0, bx1, mh0, mh1, rd_s, rd_o, rd_j, rd_2k, rdL_1k, ↓reduceIte, Bool.false_eq_true, Bool.true_eq_false, Nat.add_eq, Nat.zero_add, Nat.add_zero, not_true_eq_false, not_false_eq_true]
    refine Ev.i ?_
    unfold f_M_status
    simp (disch := omega) only [k0, k1, k2, k3, k4, k5, k6, k7, k8, k9, k10, k12, k20, k30, k31, k40, k99, k160, ite_self, nI_add, nI_leI, nI_ltI, nI_eq, nI_clamp, nI_sub', nI_mul, vpb_n, eq_self, implies_true, grd_t, grd_i, if_pos, if_neg, bI_k, bV_k, bx0, bx1, mh0, mh1, rd_s, rd_o, rd_j, rd_2k, rdL_1k, ↓reduceIte, Bool.false_eq_true, Bool.true_eq_false, Nat.add_eq, Nat.zero_add, Nat.add_zero, not_true_eq_false, not_false_eq_true]
    rw [M_allHits e3 hn mb]
    exact Ev.i ⟨rfl, h⟩
  by_cases c4 : x1 = nI 4
  · subst c4
    simp (disch := omega) only [k0, k1, k2, k3, k4, k5, k6, k7, k8, k9, k10, k12, k20, k30, k31, k40, k99, k160, ite_self, nI_add, nI_leI, nI_ltI, nI_eq, nI_clamp, nI_sub', nI_mul, vpb_n, eq_self, implies_true, grd_t, grd_i, if_pos, if_neg, bI_k, bV_k, bx0, bx1, mh0, mh1, rd_s, rd_o, rd_j, rd_2k, rdL_1k, ↓reduceIte, Bool.false_eq_true, Bool.true_eq_false, Nat.add_eq, Nat.zero_add, Nat.add_zero, not_true_eq_false, not_false_eq_true]
    refine Ev.i ?_
    unfold f_M_status
    simp (disch := omega) only [k0, k1, k2, k3, k4, k5, k6, k7, k8, k9, k10, k12, k20, k30, k31, k40, k99, k160, ite_self, nI_add, nI_leI, nI_ltI, nI_eq, nI_clamp, nI_sub', nI_mul, vpb_n, eq_self, implies_true, grd_t, grd_i, if_pos, if_neg, bI_k, bV_k, bx0, bx1, mh0, mh1, rd_s, rd_o, rd_j, rd_2k, rdL_1k, ↓reduceIte, Bool.false_eq_true, Bool.true_eq_false, Nat.add_eq, Nat.zero_add, Nat.add_zero, not_true_eq_false, not_false_eq_true]
    rw [M_believers e3 hn mb]
    exact Ev.i ⟨rfl, h⟩
  by_cases c5 : x1 = nI 5
  · subst c5
    simp (disch := omega) only [k0, k1, k2, k3, k4, k5, k6, k7, k8, k9, k10, k12, k20, k30, k31, k40, k99, k160, ite_self, nI_add, nI_leI, nI_ltI, nI_eq, nI_clamp, nI_sub', nI_mul, vpb_n, eq_self, implies_true, grd_t, grd_i, if_pos, if_neg, bI_k, bV_k, bx0, bx1, mh0, mh1, rd_s, rd_o, rd_j, rd_2k, rdL_1k, ↓reduceIte, Bool.false_eq_true, Bool.true_eq_false, Nat.add_eq, Nat.zero_add, Nat.add_zero, not_true_eq_false, not_false_eq_true]
    refine Ev.i ?_
    unfold f_M_status
    simp (disch := omega) only [k0, k1, k2, k3, k4, k5, k6, k7, k8, k9, k10, k12, k20, k30, k31, k40, k99, k160, ite_self, nI_add, nI_leI, nI_ltI, nI_eq, nI_clamp, nI_sub', nI_mul, vpb_n, eq_self, implies_true, grd_t, grd_i, if_pos, if_neg, bI_k, bV_k, bx0, bx1, mh0, mh1, rd_s, rd_o, rd_j, rd_2k, rdL_1k, ↓reduceIte, Bool.false_eq_true, Bool.true_eq_false, Nat.add_eq, Nat.zero_add, Nat.add_zero, not_true_eq_false, not_false_eq_true]
    exact Ev.i ⟨e5.symm, h⟩
  by_cases c6 : x1 = nI 6
  · subst c6
    simp (disch := omega) only [k0, k1, k2, k3, k4, k5, k6, k7, k8, k9, k10, k12, k20, k30, k31, k40, k99, k160, ite_self, nI_add, nI_leI, nI_ltI, nI_eq, nI_clamp, nI_sub', nI_mul, vpb_n, eq_self, implies_true, grd_t, grd_i, if_pos, if_neg, bI_k, bV_k, bx0, bx1, mh0, mh1, rd_s, rd_o, rd_j, rd_2k, rdL_1k, ↓reduceIte, Bool.false_eq_true, Bool.true_eq_false, Nat.add_eq, Nat.zero_add, Nat.add_zero, not_true_eq_false, not_false_eq_true, t1]
    refine Ev.i ?_
    unfold f_M_status
    simp (disch := omega) only [k0, k1, k2, k3, k4, k5, k6, k7, k8, k9, k10, k12, k20, k30, k31, k40, k99, k160, ite_self, nI_add, nI_leI, nI_ltI, nI_eq, nI_clamp, nI_sub', nI_mul, vpb_n, eq_self, implies_true, grd_t, grd_i, if_pos, if_neg, bI_k, bV_k, bx0, bx1, mh0, mh1, rd_s, rd_o, rd_j, rd_2k, rdL_1k, ↓reduceIte, Bool.false_eq_true, Bool.true_eq_false, Nat.add_eq, Nat.zero_add, Nat.add_zero, not_true_eq_false, not_false_eq_true, t2]
    exact Ev.i ⟨rfl, h⟩
  have mw : (x1 ≤ nI 10 ∨ nI 17 < x1) → f_M_status w x1 = some (some (.int (-nI 1)), w) := by
    intro q
    have e : v_M_within w x1 (11 : Int32) (17 : Int32) = nI 0 := by
      unfold v_M_within
      rcases q with q | q
      · refine if_pos ?_
        show x1 < nI 11
        rw [Int32.le_iff_toInt_le, nI_toInt (by omega)] at q
        rw [Int32.lt_iff_toInt_lt, nI_toInt (by omega)]
        omega
      · split
        · rfl
        · exact if_pos q
    unfold f_M_status
    rw [e]
    simp (disch := omega) only [k0, k1, k2, k3, k4, k5, k6, k7, k8, k9, k10, k12, k20, k30, k31, k40, k99, k160, ite_self, nI_add, nI_leI, nI_ltI, nI_eq, nI_clamp, nI_sub', nI_mul, vpb_n, eq_self, implies_true, grd_t, grd_i, if_pos, if_neg, bI_k, bV_k, bx0, bx1, mh0, mh1, rd_s, rd_o, rd_j, rd_2k, rdL_1k, ↓reduceIte, Bool.false_eq_true, Bool.true_eq_false, Nat.add_eq, Nat.zero_add, Nat.add_zero, not_true_eq_false, not_false_eq_true, c0, c1, c2, c3, c4, c5, c6]
  by_cases q1 : x1 ≤ nI 10
  · simp (disch := omega) only [k0, k1, k2, k3, k4, k5, k6, k7, k8, k9, k10, k12, k20, k30, k31, k40, k99, k160, ite_self, nI_add, nI_leI, nI_ltI, nI_eq, nI_clamp, nI_sub', nI_mul, vpb_n, eq_self, implies_true, grd_t, grd_i, if_pos, if_neg, bI_k, bV_k, bx0, bx1, mh0, mh1, rd_s, rd_o, rd_j, rd_2k, rdL_1k, ↓reduceIte, Bool.false_eq_true, Bool.true_eq_false, Nat.add_eq, Nat.zero_add, Nat.add_zero, not_true_eq_false, not_false_eq_true, q1, c0, c1, c2, c3, c4, c5, c6]
    refine Ev.i ?_
    rw [mw (.inl q1)]
    exact Ev.i ⟨rfl, h⟩
  by_cases q2 : nI 17 < x1
  · simp (disch := omega) only [k0, k1, k2, k3, k4, k5, k6, k7, k8, k9, k10, k12, k20, k30, k31, k40, k99, k160, ite_self, nI_add, nI_leI, nI_ltI, nI_eq, nI_clamp, nI_sub', nI_mul, vpb_n, eq_self, implies_true, grd_t, grd_i, if_pos, if_neg, bI_k, bV_k, bx0, bx1, mh0, mh1, rd_s, rd_o, rd_j, rd_2k, rdL_1k, ↓reduceIte, Bool.false_eq_true, Bool.true_eq_false, Nat.add_eq, Nat.zero_add, Nat.add_zero, not_true_eq_false, not_false_eq_true, q1, q2, c0, c1, c2, c3, c4, c5, c6, k17]
    refine Ev.i ?_
    rw [mw (.inr q2)]
    exact Ev.i ⟨rfl, h⟩
  obtain ⟨k, hk1, hk2, rfl⟩ : ∃ k, 11 ≤ k ∧ k ≤ 17 ∧ x1 = nI k := by
    have q3 := Int32.not_lt.mp q2
    have q4 := Int32.not_le.mp q1
    obtain ⟨k, hk, rfl⟩ : ∃ k, k < 2 ^ 31 ∧ x1 = nI k := nI_of (fun q => by
      rw [Int32.lt_iff_toInt_lt, nI_toInt (by omega)] at q4
      rw [Int32.lt_iff_toInt_lt] at q
      have : (0 : Int32).toInt = 0 := by decide
      omega)
    rw [nI_leI hk (by omega)] at q3
    rw [nI_ltI (by omega) hk] at q4
    exact ⟨k, by omega, by omega, rfl⟩
  simp (disch := omega) only [k0, k1, k2, k3, k4, k5, k6, k7, k8, k9, k10, k12, k20, k30, k31, k40, k99, k160, ite_self, nI_add, nI_leI, nI_ltI, nI_eq, nI_clamp, nI_sub', nI_mul, vpb_n, eq_self, implies_true, grd_t, grd_i, if_pos, if_neg, bI_k, bV_k, bx0, bx1, mh0, mh1, rd_s, rd_o, rd_j, rd_2k, rdL_1k, ↓reduceIte, Bool.false_eq_true, Bool.true_eq_false, Nat.add_eq, Nat.zero_add, Nat.add_zero, not_true_eq_false, not_false_eq_true, q1, q2, k17]
  refine Ev.i ?_
  unfold f_M_status
  have e : v_M_within w (nI k) (nI 11) (nI 17) = nI 1 := by
    unfold v_M_within
    simp (disch := omega) only [k0, k1, k2, k3, k4, k5, k6, k7, k8, k9, k10, k12, k20, k30, k31, k40, k99, k160, ite_self, nI_add, nI_leI, nI_ltI, nI_eq, nI_clamp, nI_sub', nI_mul, vpb_n, eq_self, implies_true, grd_t, grd_i, if_pos, if_neg, bI_k, bV_k, bx0, bx1, mh0, mh1, rd_s, rd_o, rd_j, rd_2k, rdL_1k, ↓reduceIte, Bool.false_eq_true, Bool.true_eq_false, Nat.add_eq, Nat.zero_add, Nat.add_zero, not_true_eq_false, not_false_eq_true]
  simp (disch := omega) only [k0, k1, k2, k3, k4, k5, k6, k7, k8, k9, k10, k12, k20, k30, k31, k40, k99, k160, ite_self, nI_add, nI_leI, nI_ltI, nI_eq, nI_clamp, nI_sub', nI_mul, vpb_n, eq_self, implies_true, grd_t, grd_i, if_pos, if_neg, bI_k, bV_k, bx0, bx1, mh0, mh1, rd_s, rd_o, rd_j, rd_2k, rdL_1k, ↓reduceIte, Bool.false_eq_true, Bool.true_eq_false, Nat.add_eq, Nat.zero_add, Nat.add_zero, not_true_eq_false, not_false_eq_true, c0, c1, c2, c3, c4, c5, c6, k11, k17, e]
  exact Ev.i ⟨(g3.2 (k - 10) (by omega) (by omega)).symm, h⟩
