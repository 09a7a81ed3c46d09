theorem ffF_s {J : Nat → Nat → Int32} {f t : Nat} (hf : f < 3) (ht : t < 31) : ffF J (93 - (31 * f + t)) (31 * f + t) = if J f (30 - t) = nI 0 then ffF J (93 - (31 * f + (t + 1))) (31 * f + (t + 1)) else nI (100 * f + (30 - t)) := by
  rw [show 93 - (31 * f + t) = (93 - (31 * f + (t + 1))) + 1 by omega, ffF, show (31 * f + t) / 31 = f by omega, show (31 * f + t) % 31 = t by omega]
  rfl
theorem d30 : (30 : Int32) = dI 31 0 := by decide
theorem k15 : (15 : Int32) = nI 15 := by decide
theorem X_slips {w : MW} {n L s len : Nat} {K A F : Nat → Nat} {M S E : Nat → Int32} (rx : RX 1 w n L K A F M S) (hL : L ≤ 30) (hs8 : s < 8) (hl : len ≤ 160) (e : w.1 (35 + 2 * s) 1 = nI len) (hE : ∀ i, i < len → (w.2.1 (35 + 2 * s + 1) i).toInt32 = E i)
    {J : Nat → Nat → Int32} (hJ : ∀ f a, hrF S E (nI (placesN 4 a f L)) len L 0 0 = J f a) : EI (f_Cl_slips w 1 (35 + 2 * s)) (fun v w' => v = nI (cTo J 3) ∧ w' = w) := by
  unfold f_Cl_slips
  refine lp (σ := Nat) (F := fun m c f => f_Cl_slips_5 1 (35 + 2 * s) m w (nI c) (nI f)) (fun c f => c = cTo J f) 3 0 0 rfl (by omega) (by omega) ?_ ?_
  · intro m c hi
    subst hi
    show Ev (f_Cl_slips_5 1 (35 + 2 * s) (m + 1) w (nI (cTo J 3)) (nI 3)) _
    rw [f_Cl_slips_5]
    simp (disch := omega) only [k0, k1, k2, k3, k4, k5, k6, k7, k8, k9, k10, k12, k20, k30, k31, k40, k99, k160, ite_self, nI_add, nI_leI, nI_ltI, nI_eq, nI_clamp, nI_sub', nI_mul, vpb_n, eq_self, implies_true, grd_t, grd_i, if_pos, if_neg, bI_k, bV_k, bx0, bx1, mh0, mh1, rd_s, rd_o, rd_j, rd_2k, rdL_1k, ↓reduceIte, Bool.false_eq_true, Bool.true_eq_false, Nat.add_eq, Nat.zero_add, Nat.add_zero, not_true_eq_false, not_false_eq_true]
    exact Ev.i ⟨rfl, rfl⟩
  · intro m c f _ hf hinv kk
    show Ev (f_Cl_slips_5 1 (35 + 2 * s) (m + 1) w (nI c) (nI f)) _
    rw [f_Cl_slips_5]
    simp (disch := omega) only [k0, k1, k2, k3, k4, k5, k6, k7, k8, k9, k10, k12, k20, k30, k31, k40, k99, k160, ite_self, nI_add, nI_leI, nI_ltI, nI_eq, nI_clamp, nI_sub', nI_mul, vpb_n, eq_self, implies_true, grd_t, grd_i, if_pos, if_neg, bI_k, bV_k, bx0, bx1, mh0, mh1, rd_s, rd_o, rd_j, rd_2k, rdL_1k, ↓reduceIte, Bool.false_eq_true, Bool.true_eq_false, Nat.add_eq, Nat.zero_add, Nat.add_zero, not_true_eq_false, not_false_eq_true]
    refine lp (σ := Nat) (F := fun q c a => f_Cl_slips_14 1 (35 + 2 * s) _ q w (nI c) (nI f) (nI a)) (fun c a => c = cTo J f + cA J f a) 31 0 c (by rw [hinv]; rfl) (by omega) (by omega) ?_ ?_
    · intro q c hc
      show Ev (f_Cl_slips_14 1 (35 + 2 * s) _ (q + 1) w (nI c) (nI f) (nI 31)) _
      rw [f_Cl_slips_14]
      simp (disch := omega) only [k0, k1, k2, k3, k4, k5, k6, k7, k8, k9, k10, k12, k20, k30, k31, k40, k99, k160, ite_self, nI_add, nI_leI, nI_ltI, nI_eq, nI_clamp, nI_sub', nI_mul, vpb_n, eq_self, implies_true, grd_t, grd_i, if_pos, if_neg, bI_k, bV_k, bx0, bx1, mh0, mh1, rd_s, rd_o, rd_j, rd_2k, rdL_1k, ↓reduceIte, Bool.false_eq_true, Bool.true_eq_false, Nat.add_eq, Nat.zero_add, Nat.add_zero, not_true_eq_false, not_false_eq_true]
      exact kk c hc
    · intro q c a _ ha hc k2
      have b1 := cTo_le J f
      have b2 := cA_le J f a
      show Ev (f_Cl_slips_14 1 (35 + 2 * s) _ (q + 1) w (nI c) (nI f) (nI a)) _
      rw [f_Cl_slips_14, X_slip (E := E) rx hL hs8 hl e hE hf ha, hJ]
      by_cases hz : J f a = nI 0
      · simp (disch := omega) only [k0, k1, k2, k3, k4, k5, k6, k7, k8, k9, k10, k12, k20, k30, k31, k40, k99, k160, ite_self, nI_add, nI_leI, nI_ltI, nI_eq, nI_clamp, nI_sub', nI_mul, vpb_n, eq_self, implies_true, grd_t, grd_i, if_pos, if_neg, bI_k, bV_k, bx0, bx1, mh0, mh1, rd_s, rd_o, rd_j, rd_2k, rdL_1k, ↓reduceIte, Bool.false_eq_true, Bool.true_eq_false, Nat.add_eq, Nat.zero_add, Nat.add_zero, not_true_eq_false, not_false_eq_true, hz]
        refine k2 c ?_
        rw [hc, cA, if_pos hz]
        omega
      · simp (disch := omega) only [k0, k1, k2, k3, k4, k5, k6, k7, k8, k9, k10, k12, k20, k30, k31, k40, k99, k160, ite_self, nI_add, nI_leI, nI_ltI, nI_eq, nI_clamp, nI_sub', nI_mul, vpb_n, eq_self, implies_true, grd_t, grd_i, if_pos, if_neg, bI_k, bV_k, bx0, bx1, mh0, mh1, rd_s, rd_o, rd_j, rd_2k, rdL_1k, ↓reduceIte, Bool.false_eq_true, Bool.true_eq_false, Nat.add_eq, Nat.zero_add, Nat.add_zero, not_true_eq_false, not_false_eq_true, hz]
        refine k2 (c + 1) ?_
        rw [hc, cA, if_neg hz]
        omega
theorem X_firstSlip {w : MW} {n L s len : Nat} {K A F : Nat → Nat} {M S E : Nat → Int32} (rx : RX 1 w n L K A F M S) (hL : L ≤ 30) (hs8 : s < 8) (hl : len ≤ 160) (e : w.1 (35 + 2 * s) 1 = nI len) (hE : ∀ i, i < len → (w.2.1 (35 + 2 * s + 1) i).toInt32 = E i)
    {J : Nat → Nat → Int32} (hJ : ∀ f a, hrF S E (nI (placesN 4 a f L)) len L 0 0 = J f a) : EI (f_Cl_firstSlip w 1 (35 + 2 * s)) (fun v w' => v = ffF J 93 0 ∧ w' = w) := by
  unfold f_Cl_firstSlip
  refine lp (σ := Unit) (F := fun m _ f => f_Cl_firstSlip_2 1 (35 + 2 * s) m w (nI f)) (fun _ f => ffF J (93 - 31 * f) (31 * f) = ffF J 93 0) 3 0 () rfl (by omega) (by omega) ?_ ?_
  · intro m _ hi
    show Ev (f_Cl_firstSlip_2 1 (35 + 2 * s) (m + 1) w (nI 3)) _
    rw [f_Cl_firstSlip_2]
    simp (disch := omega) only [k0, k1, k2, k3, k4, k5, k6, k7, k8, k9, k10, k12, k20, k30, k31, k40, k99, k160, ite_self, nI_add, nI_leI, nI_ltI, nI_eq, nI_clamp, nI_sub', nI_mul, vpb_n, eq_self, implies_true, grd_t, grd_i, if_pos, if_neg, bI_k, bV_k, bx0, bx1, mh0, mh1, rd_s, rd_o, rd_j, rd_2k, rdL_1k, ↓reduceIte, Bool.false_eq_true, Bool.true_eq_false, Nat.add_eq, Nat.zero_add, Nat.add_zero, not_true_eq_false, not_false_eq_true]
    exact Ev.i ⟨hi, rfl⟩
  · intro m _ f _ hf hinv kk
    show Ev (f_Cl_firstSlip_2 1 (35 + 2 * s) (m + 1) w (nI f)) _
    rw [f_Cl_firstSlip_2, d30]
    simp (disch := omega) only [k0, k1, k2, k3, k4, k5, k6, k7, k8, k9, k10, k12, k20, k30, k31, k40, k99, k160, ite_self, nI_add, nI_leI, nI_ltI, nI_eq, nI_clamp, nI_sub', nI_mul, vpb_n, eq_self, implies_true, grd_t, grd_i, if_pos, if_neg, bI_k, bV_k, bx0, bx1, mh0, mh1, rd_s, rd_o, rd_j, rd_2k, rdL_1k, ↓reduceIte, Bool.false_eq_true, Bool.true_eq_false, Nat.add_eq, Nat.zero_add, Nat.add_zero, not_true_eq_false, not_false_eq_true]
    refine lp (σ := Unit) (F := fun q _ t => f_Cl_firstSlip_11 1 (35 + 2 * s) _ q w (nI f) (dI 31 t)) (fun _ t => ffF J (93 - (31 * f + t)) (31 * f + t) = ffF J 93 0) 31 0 () hinv (by omega) (by omega) ?_ ?_
    · intro q _ ht
      show Ev (f_Cl_firstSlip_11 1 (35 + 2 * s) _ (q + 1) w (nI f) (dI 31 31)) _
      have e0 := (dI_k (k := 31) (by omega)).1
      rw [f_Cl_firstSlip_11]
      simp (disch := omega) only [k0, k1, k2, k3, k4, k5, k6, k7, k8, k9, k10, k12, k20, k30, k31, k40, k99, k160, ite_self, nI_add, nI_leI, nI_ltI, nI_eq, nI_clamp, nI_sub', nI_mul, vpb_n, eq_self, implies_true, grd_t, grd_i, if_pos, if_neg, bI_k, bV_k, bx0, bx1, mh0, mh1, rd_s, rd_o, rd_j, rd_2k, rdL_1k, ↓reduceIte, Bool.false_eq_true, Bool.true_eq_false, Nat.add_eq, Nat.zero_add, Nat.add_zero, not_true_eq_false, not_false_eq_true, e0]
      exact kk () ht
    · intro q _ t _ ht hinv k2
      rw [ffF_s hf ht] at hinv
      show Ev (f_Cl_firstSlip_11 1 (35 + 2 * s) _ (q + 1) w (nI f) (dI 31 t)) _
      have es := dI_s ht (by omega)
      have ev := dI_v ht
      rw [ev] at es
      have e0 : ¬ nI (31 - (t + 1)) < nI 0 := nI_pos (by omega)
      rw [f_Cl_firstSlip_11, ev, X_slip (E := E) rx hL hs8 hl e hE hf (by omega), hJ, show 31 - (t + 1) = 30 - t by omega]
      rw [show 31 - (t + 1) = 30 - t by omega] at e0 es
      by_cases hz : J f (30 - t) = nI 0
      · rw [if_pos hz] at hinv
        simp (disch := omega) only [k0, k1, k2, k3, k4, k5, k6, k7, k8, k9, k10, k12, k20, k30, k31, k40, k99, k160, ite_self, nI_add, nI_leI, nI_ltI, nI_eq, nI_clamp, nI_sub', nI_mul, vpb_n, eq_self, implies_true, grd_t, grd_i, if_pos, if_neg, bI_k, bV_k, bx0, bx1, mh0, mh1, rd_s, rd_o, rd_j, rd_2k, rdL_1k, ↓reduceIte, Bool.false_eq_true, Bool.true_eq_false, Nat.add_eq, Nat.zero_add, Nat.add_zero, not_true_eq_false, not_false_eq_true, hz, e0, es]
        exact k2 () hinv
      · rw [if_neg hz] at hinv
        simp (disch := omega) only [k0, k1, k2, k3, k4, k5, k6, k7, k8, k9, k10, k12, k20, k30, k31, k40, k99, k160, ite_self, nI_add, nI_leI, nI_ltI, nI_eq, nI_clamp, nI_sub', nI_mul, vpb_n, eq_self, implies_true, grd_t, grd_i, if_pos, if_neg, bI_k, bV_k, bx0, bx1, mh0, mh1, rd_s, rd_o, rd_j, rd_2k, rdL_1k, ↓reduceIte, Bool.false_eq_true, Bool.true_eq_false, Nat.add_eq, Nat.zero_add, Nat.add_zero, not_true_eq_false, not_false_eq_true, hz, e0, es, k100]
        exact Ev.i ⟨hinv, rfl⟩
theorem M_count {w : MW} {n L s len : Nat} {K A F : Nat → Nat} {M S E : Nat → Int32} (rm : RM w n L K A F M S) (hL : L ≤ 30) (hs8 : s < 8) (hl : len ≤ 160) (e : w.1 64 s = nI len) (hE : ∀ i, i < len → (w.2.1 65 (160 * s + i)).toInt32 = E i)
    {J : Nat → Nat → Int32} (hJ : ∀ f a, hrF S E (nI (placesN 4 a f L)) len L 0 0 = J f a) {what : Nat} (hw : what < 2) : EI (f_M_count_41 FU w (nI s) (nI what) (nI 0) (-nI 1) (nI 0)) (fun v w' => v = (if what = 0 then nI (cTo J 3) else ffF J 93 0) ∧ w' = w) := by
  refine lp (σ := Nat × Int32) (F := fun m z f => f_M_count_41 m w (nI s) (nI what) (nI z.1) z.2 (nI f)) (fun z f => z.1 = cTo J f ∧ (if z.2 = -nI 1 then ffF J (93 - 31 * f) (31 * f) else z.2) = ffF J 93 0) 3 0 (0, -nI 1) ⟨rfl, by rw [if_pos rfl]⟩ (by omega) (by omega) ?_ ?_
  · intro m z hi
    obtain ⟨c, x⟩ := z
    obtain ⟨i1, i2⟩ := hi
    replace i1 : c = cTo J 3 := i1
    subst i1
    replace i2 : (if x = -nI 1 then ffF J (93 - 31 * 3) (31 * 3) else x) = ffF J 93 0 := i2
    have i3 : x = ffF J 93 0 := by
      by_cases q : x = -nI 1
      · rw [if_pos q] at i2
        rw [q, ← i2]
        rfl
      · rw [if_neg q] at i2
        exact i2
    show Ev (f_M_count_41 (m + 1) w (nI s) (nI what) (nI (cTo J 3)) x (nI 3)) _
    rw [f_M_count_41]
    by_cases q : what = 0
    · simp (disch := omega) only [k0, k1, k2, k3, k4, k5, k6, k7, k8, k9, k10, k12, k20, k30, k31, k40, k99, k160, ite_self, nI_add, nI_leI, nI_ltI, nI_eq, nI_clamp, nI_sub', nI_mul, vpb_n, eq_self, implies_true, grd_t, grd_i, if_pos, if_neg, bI_k, bV_k, bx0, bx1, mh0, mh1, rd_s, rd_o, rd_j, rd_2k, rdL_1k, ↓reduceIte, Bool.false_eq_true, Bool.true_eq_false, Nat.add_eq, Nat.zero_add, Nat.add_zero, not_true_eq_false, not_false_eq_true, q]
      exact Ev.i ⟨rfl, rfl⟩
    · simp (disch := omega) only [k0, k1, k2, k3, k4, k5, k6, k7, k8, k9, k10, k12, k20, k30, k31, k40, k99, k160, ite_self, nI_add, nI_leI, nI_ltI, nI_eq, nI_clamp, nI_sub', nI_mul, vpb_n, eq_self, implies_true, grd_t, grd_i, if_pos, if_neg, bI_k, bV_k, bx0, bx1, mh0, mh1, rd_s, rd_o, rd_j, rd_2k, rdL_1k, ↓reduceIte, Bool.false_eq_true, Bool.true_eq_false, Nat.add_eq, Nat.zero_add, Nat.add_zero, not_true_eq_false, not_false_eq_true, q]
      exact Ev.i ⟨i3, rfl⟩
  · intro m z f _ hf hinv kk
    obtain ⟨c, x⟩ := z
    obtain ⟨i1, i2⟩ := hinv
    replace i1 : c = cTo J f := i1
    replace i2 : (if x = -nI 1 then ffF J (93 - 31 * f) (31 * f) else x) = ffF J 93 0 := i2
    show Ev (f_M_count_41 (m + 1) w (nI s) (nI what) (nI c) x (nI f)) _
    rw [f_M_count_41, d30]
    simp (disch := omega) only [k0, k1, k2, k3, k4, k5, k6, k7, k8, k9, k10, k12, k20, k30, k31, k40, k99, k160, ite_self, nI_add, nI_leI, nI_ltI, nI_eq, nI_clamp, nI_sub', nI_mul, vpb_n, eq_self, implies_true, grd_t, grd_i, if_pos, if_neg, bI_k, bV_k, bx0, bx1, mh0, mh1, rd_s, rd_o, rd_j, rd_2k, rdL_1k, ↓reduceIte, Bool.false_eq_true, Bool.true_eq_false, Nat.add_eq, Nat.zero_add, Nat.add_zero, not_true_eq_false, not_false_eq_true]
    refine lp (σ := Nat × Int32) (F := fun q z t => f_M_count_51 _ q w (nI s) (nI what) (nI z.1) z.2 (nI f) (dI 31 t)) (fun z t => z.1 + cA J f (31 - t) = cTo J f + cA J f 31 ∧ (if z.2 = -nI 1 then ffF J (93 - (31 * f + t)) (31 * f + t) else z.2) = ffF J 93 0) 31 0 (c, x) ⟨by rw [i1], i2⟩ (by omega) (by omega) ?_ ?_
    · intro q z hz
      obtain ⟨c2, x2⟩ := z
      obtain ⟨j1, j2⟩ := hz
      show Ev (f_M_count_51 _ (q + 1) w (nI s) (nI what) (nI c2) x2 (nI f) (dI 31 31)) _
      have e0 := (dI_k (k := 31) (by omega)).1
      rw [f_M_count_51]
      simp (disch := omega) only [k0, k1, k2, k3, k4, k5, k6, k7, k8, k9, k10, k12, k20, k30, k31, k40, k99, k160, ite_self, nI_add, nI_leI, nI_ltI, nI_eq, nI_clamp, nI_sub', nI_mul, vpb_n, eq_self, implies_true, grd_t, grd_i, if_pos, if_neg, bI_k, bV_k, bx0, bx1, mh0, mh1, rd_s, rd_o, rd_j, rd_2k, rdL_1k, ↓reduceIte, Bool.false_eq_true, Bool.true_eq_false, Nat.add_eq, Nat.zero_add, Nat.add_zero, not_true_eq_false, not_false_eq_true, e0]
      refine kk (c2, x2) ⟨?_, j2⟩
      rw [Nat.sub_self] at j1
      exact j1
    · intro q z t _ ht hinv k2
      obtain ⟨c2, x2⟩ := z
      obtain ⟨j1, j2⟩ := hinv
      replace j1 : c2 + cA J f (31 - t) = cTo J f + cA J f 31 := j1
      replace j2 : (if x2 = -nI 1 then ffF J (93 - (31 * f + t)) (31 * f + t) else x2) = ffF J 93 0 := j2
      rw [ffF_s hf ht] at j2
      rw [show 31 - t = (30 - t) + 1 by omega, cA] at j1
      have b1 := cTo_le J f
      have b2 := cA_le J f 31
      have es := dI_s ht (by omega)
      have ev := dI_v ht
      rw [ev, show 31 - (t + 1) = 30 - t by omega] at es
      have e0 : ¬ nI (30 - t) < nI 0 := nI_pos (by omega)
      show Ev (f_M_count_51 _ (q + 1) w (nI s) (nI what) (nI c2) x2 (nI f) (dI 31 t)) _
      rw [f_M_count_51, ev, show 31 - (t + 1) = 30 - t by omega, show f_M_his w (4 : Int32) (nI (30 - t)) (nI f) = _ from M_hisA w (k := 4) (by omega) (by omega) hf hL rm.2.1]
      simp only [bI_k]
      rw [M_heardRow (E := E) rm hL hs8 hl e hE, hJ]
      simp only [bI_k]
      by_cases hz : J f (30 - t) = nI 0
      · rw [if_pos hz] at j1 j2
        simp (disch := omega) only [k0, k1, k2, k3, k4, k5, k6, k7, k8, k9, k10, k12, k20, k30, k31, k40, k99, k160, ite_self, nI_add, nI_leI, nI_ltI, nI_eq, nI_clamp, nI_sub', nI_mul, vpb_n, eq_self, implies_true, grd_t, grd_i, if_pos, if_neg, bI_k, bV_k, bx0, bx1, mh0, mh1, rd_s, rd_o, rd_j, rd_2k, rdL_1k, ↓reduceIte, Bool.false_eq_true, Bool.true_eq_false, Nat.add_eq, Nat.zero_add, Nat.add_zero, not_true_eq_false, not_false_eq_true, hz, e0, es]
        exact k2 (c2, x2) ⟨by show c2 + cA J f (31 - (t + 1)) = _; rw [show 31 - (t + 1) = 30 - t by omega]; omega, j2⟩
      · rw [if_neg hz] at j1 j2
        by_cases hx : x2 = -nI 1
        · rw [if_pos hx] at j2
          have hne := nI_ne_m1 (m := 100 * f + (30 - t)) (by omega)
          simp (disch := omega) only [k0, k1, k2, k3, k4, k5, k6, k7, k8, k9, k10, k12, k20, k30, k31, k40, k99, k160, ite_self, nI_add, nI_leI, nI_ltI, nI_eq, nI_clamp, nI_sub', nI_mul, vpb_n, eq_self, implies_true, grd_t, grd_i, if_pos, if_neg, bI_k, bV_k, bx0, bx1, mh0, mh1, rd_s, rd_o, rd_j, rd_2k, rdL_1k, ↓reduceIte, Bool.false_eq_true, Bool.true_eq_false, Nat.add_eq, Nat.zero_add, Nat.add_zero, not_true_eq_false, not_false_eq_true, hz, e0, es, hx, k100]
          refine k2 (c2 + 1, nI (100 * f + (30 - t))) ⟨by show c2 + 1 + cA J f (31 - (t + 1)) = _; rw [show 31 - (t + 1) = 30 - t by omega]; omega, ?_⟩
          show (if nI (100 * f + (30 - t)) = -nI 1 then _ else nI (100 * f + (30 - t))) = _
          rw [if_neg hne]
          exact j2
        · rw [if_neg hx] at j2
          simp (disch := omega) only [k0, k1, k2, k3, k4, k5, k6, k7, k8, k9, k10, k12, k20, k30, k31, k40, k99, k160, ite_self, nI_add, nI_leI, nI_ltI, nI_eq, nI_clamp, nI_sub', nI_mul, vpb_n, eq_self, implies_true, grd_t, grd_i, if_pos, if_neg, bI_k, bV_k, bx0, bx1, mh0, mh1, rd_s, rd_o, rd_j, rd_2k, rdL_1k, ↓reduceIte, Bool.false_eq_true, Bool.true_eq_false, Nat.add_eq, Nat.zero_add, Nat.add_zero, not_true_eq_false, not_false_eq_true, hz, e0, es, hx]
          refine k2 (c2 + 1, x2) ⟨by show c2 + 1 + cA J f (31 - (t + 1)) = _; rw [show 31 - (t + 1) = 30 - t by omega]; omega, ?_⟩
          show (if x2 = -nI 1 then _ else x2) = _
          rw [if_neg hx]
          exact j2
theorem sim_count (x1 x2 : Int32) : SIM (fun w => f_X_count w x1 x2) (fun w => f_M_count w x1 x2) := by
  intro sc N w h
  have h0 := h
  obtain ⟨⟨n, L, K, A, F, M, S, g1, g2⟩, g3, g4, g5, g6⟩ := h0
  have hn := g1.2.2.1.1
  have hL := g1.2.2.1.2.1
  have ok := g1.2.2.1
  show EI (f_X_count w x1 x2) (fun v w1 => EI (f_M_count w1 x1 x2) (fun v' w2 => v' = v ∧ Inv sc N w2))
  unfold f_X_count
  rcases row_cases hn g2 x1 with ⟨c, h1, h2, h3, h4⟩ | ⟨s, t, len, hs8, rfl, hr, h3, h4⟩
  · have e1 := noRow_c (w := w) (w' := u_X_refuse w (-nI c)) (xr_o (by omega)) x1
    rw [h4] at e1
    simp (disch := omega) only [k0, k1, k2, k3, k4, k5, k6, k7, k8, k9, k10, k12, k20, k30, k31, k40, k99, k160, ite_self, nI_add, nI_leI, nI_ltI, nI_eq, nI_clamp, nI_sub', nI_mul, vpb_n, eq_self, implies_true, grd_t, grd_i, if_pos, if_neg, bI_k, bV_k, bx0, bx1, mh0, mh1, rd_s, rd_o, rd_j, rd_2k, rdL_1k, ↓reduceIte, Bool.false_eq_true, Bool.true_eq_false, Nat.add_eq, Nat.zero_add, Nat.add_zero, not_true_eq_false, not_false_eq_true, h3, (neg_ne0 h1 (by omega : c ≤ 7)).1, u_refF, v_refF]
    refine Ev.i ?_
    unfold f_M_count
    simp (disch := omega) only [k0, k1, k2, k3, k4, k5, k6, k7, k8, k9, k10, k12, k20, k30, k31, k40, k99, k160, ite_self, nI_add, nI_leI, nI_ltI, nI_eq, nI_clamp, nI_sub', nI_mul, vpb_n, eq_self, implies_true, grd_t, grd_i, if_pos, if_neg, bI_k, bV_k, bx0, bx1, mh0, mh1, rd_s, rd_o, rd_j, rd_2k, rdL_1k, ↓reduceIte, Bool.false_eq_true, Bool.true_eq_false, Nat.add_eq, Nat.zero_add, Nat.add_zero, not_true_eq_false, not_false_eq_true, e1, (neg_ne0 h1 (by omega : c ≤ 7)).2, u_no10, v_no10]
    exact Ev.i ⟨rfl, inv_ref h h1 (by omega)⟩
  obtain ⟨r1, r2, r3, r4, r5, r6, r7⟩ := hr
  generalize hE : (fun i => (w.2.1 (35 + 2 * s + 1) i).toInt32) = E
  have hE1 : ∀ i, i < len → (w.2.1 (35 + 2 * s + 1) i).toInt32 = E i := fun i _ => by rw [← hE]
  have hE2 : ∀ i, i < len → (w.2.1 65 (160 * s + i)).toInt32 = E i := fun i hi => by rw [← r7 i hi]; exact hE1 i hi
  generalize hJ : (fun f a => hrF S E (nI (placesN 4 a f L)) len L 0 0) = J
  have hJ1 : ∀ f a, hrF S E (nI (placesN 4 a f L)) len L 0 0 = J f a := fun f a => by rw [← hJ]
  have wg : ∀ w' j, j < 2 → v_M_within w' (nI j) (0 : Int32) (1 : Int32) = nI 1 := fun w' j hj => wi_g (n := 2) (by omega) (by decide) hj
  by_cases c0 : x2 = nI 0
  · subst c0
    simp (disch := omega) only [k0, k1, k2, k3, k4, k5, k6, k7, k8, k9, k10, k12, k20, k30, k31, k40, k99, k160, ite_self, nI_add, nI_leI, nI_ltI, nI_eq, nI_clamp, nI_sub', nI_mul, vpb_n, eq_self, implies_true, grd_t, grd_i, if_pos, if_neg, bI_k, bV_k, bx0, bx1, mh0, mh1, rd_s, rd_o, rd_j, rd_2k, rdL_1k, ↓reduceIte, Bool.false_eq_true, Bool.true_eq_false, Nat.add_eq, Nat.zero_add, Nat.add_zero, not_true_eq_false, not_false_eq_true, h3]
    refine Ev.bI (X_slips (E := E) g1.1 hL hs8 r2 r5 hE1 hJ1) (fun v w1 h1 => ?_)
    obtain ⟨rfl, rfl⟩ := h1
    refine Ev.i ?_
    unfold f_M_count
    rw [wg w1 0 (by omega)]
    simp (disch := omega) only [k0, k1, k2, k3, k4, k5, k6, k7, k8, k9, k10, k12, k20, k30, k31, k40, k99, k160, ite_self, nI_add, nI_leI, nI_ltI, nI_eq, nI_clamp, nI_sub', nI_mul, vpb_n, eq_self, implies_true, grd_t, grd_i, if_pos, if_neg, bI_k, bV_k, bx0, bx1, mh0, mh1, rd_s, rd_o, rd_j, rd_2k, rdL_1k, ↓reduceIte, Bool.false_eq_true, Bool.true_eq_false, Nat.add_eq, Nat.zero_add, Nat.add_zero, not_true_eq_false, not_false_eq_true, h4]
    refine EI.mono (M_count (E := E) g1.2.1 hL hs8 r2 r6 hE2 hJ1 (what := 0) (by omega)) (fun v w2 h2 => ?_)
    obtain ⟨rfl, rfl⟩ := h2
    exact ⟨if_pos rfl, h⟩
  by_cases c1 : x2 = nI 1
  · subst c1
    simp (disch := omega) only [k0, k1, k2, k3, k4, k5, k6, k7, k8, k9, k10, k12, k20, k30, k31, k40, k99, k160, ite_self, nI_add, nI_leI, nI_ltI, nI_eq, nI_clamp, nI_sub', nI_mul, vpb_n, eq_self, implies_true, grd_t, grd_i, if_pos, if_neg, bI_k, bV_k, bx0, bx1, mh0, mh1, rd_s, rd_o, rd_j, rd_2k, rdL_1k, ↓reduceIte, Bool.false_eq_true, Bool.true_eq_false, Nat.add_eq, Nat.zero_add, Nat.add_zero, not_true_eq_false, not_false_eq_true, h3]
    refine Ev.bI (X_firstSlip (E := E) g1.1 hL hs8 r2 r5 hE1 hJ1) (fun v w1 h1 => ?_)
    obtain ⟨rfl, rfl⟩ := h1
    refine Ev.i ?_
    unfold f_M_count
    rw [wg w1 1 (by omega)]
    simp (disch := omega) only [k0, k1, k2, k3, k4, k5, k6, k7, k8, k9, k10, k12, k20, k30, k31, k40, k99, k160, ite_self, nI_add, nI_leI, nI_ltI, nI_eq, nI_clamp, nI_sub', nI_mul, vpb_n, eq_self, implies_true, grd_t, grd_i, if_pos, if_neg, bI_k, bV_k, bx0, bx1, mh0, mh1, rd_s, rd_o, rd_j, rd_2k, rdL_1k, ↓reduceIte, Bool.false_eq_true, Bool.true_eq_false, Nat.add_eq, Nat.zero_add, Nat.add_zero, not_true_eq_false, not_false_eq_true, h4]
    refine EI.mono (M_count (E := E) g1.2.1 hL hs8 r2 r6 hE2 hJ1 (what := 1) (by omega)) (fun v w2 h2 => ?_)
    obtain ⟨rfl, rfl⟩ := h2
    exact ⟨if_neg (by omega), h⟩
  simp (disch := omega) only [k0, k1, k2, k3, k4, k5, k6, k7, k8, k9, k10, k12, k20, k30, k31, k40, k99, k160, ite_self, nI_add, nI_leI, nI_ltI, nI_eq, nI_clamp, nI_sub', nI_mul, vpb_n, eq_self, implies_true, grd_t, grd_i, if_pos, if_neg, bI_k, bV_k, bx0, bx1, mh0, mh1, rd_s, rd_o, rd_j, rd_2k, rdL_1k, ↓reduceIte, Bool.false_eq_true, Bool.true_eq_false, Nat.add_eq, Nat.zero_add, Nat.add_zero, not_true_eq_false, not_false_eq_true, h3, c0, c1, u_refF, v_refF]
  refine Ev.i ?_
  unfold f_M_count
  have e1 := noRow_c (w := w) (w' := u_X_refuse w (-nI 5)) (xr_o (by omega)) (nI s)
  rw [h4] at e1
  have hb : Bad x2 2 := by
    rcases tri x2 2 (by omega) with hb | ⟨j, hj, rfl⟩
    · exact hb
    · exfalso
      rcases (show j = 0 ∨ j = 1 by omega) with rfl | rfl
      · exact c0 rfl
      · exact c1 rfl
  have e2 : v_M_within (u_X_refuse w (-nI 5)) x2 (0 : Int32) (1 : Int32) = nI 0 := wi_b (n := 2) (by omega) (by decide) hb
  rw [e2]
  simp (disch := omega) only [k0, k1, k2, k3, k4, k5, k6, k7, k8, k9, k10, k12, k20, k30, k31, k40, k99, k160, ite_self, nI_add, nI_leI, nI_ltI, nI_eq, nI_clamp, nI_sub', nI_mul, vpb_n, eq_self, implies_true, grd_t, grd_i, if_pos, if_neg, bI_k, bV_k, bx0, bx1, mh0, mh1, rd_s, rd_o, rd_j, rd_2k, rdL_1k, ↓reduceIte, Bool.false_eq_true, Bool.true_eq_false, Nat.add_eq, Nat.zero_add, Nat.add_zero, not_true_eq_false, not_false_eq_true, e1, u_no10, v_no10]
  exact Ev.i ⟨rfl, inv_ref h (by omega) (by omega)⟩
