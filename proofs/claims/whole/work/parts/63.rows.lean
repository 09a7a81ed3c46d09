/-! rows: row, set, copy -/
theorem rdL_s {w : MW} {a j : Nat} {v : Int64} : (setL w a j v).2.1 a j = v := by simp [setL, vp_updL]
theorem rdL_o {w : MW} {a j : Nat} {v : Int64} {k : Nat} (h : k ≠ a) : (setL w a j v).2.1 k = w.2.1 k := setL_o h
theorem rdL_j {w : MW} {a j l : Nat} {v : Int64} (h : l ≠ j) : (setL w a j v).2.1 a l = w.2.1 a l := by simp [setL, vp_updL, h]
theorem rdL_22 {w : MW} {a j : Nat} {v : Int64} : (setL w a j v).2.2 = w.2.2 := rfl
theorem X_takeRow {w : MW} {s t len : Nat} (hs : s < 8) (hl : len ≤ 160) : EV (f_Sh_takeRow w (35 + 2 * s) (nI t) (nI len)) (fun w' => w'.1 (35 + 2 * s) 0 = nI (100 + t) ∧ w'.1 (35 + 2 * s) 1 = nI len ∧ (∀ i, i < len → w'.2.1 (35 + 2 * s + 1) i = Int64.ofNat 0) ∧ (∀ a, a ≠ 35 + 2 * s → w'.1 a = w.1 a) ∧ (∀ a, a ≠ 35 + 2 * s + 1 → w'.2.1 a = w.2.1 a) ∧ w'.2.2 = w.2.2) := by
  unfold f_Sh_takeRow
  simp (disch := omega) only [k0, k1, k2, k3, k4, k5, k6, k7, k8, k9, k10, k12, k20, k30, k31, k40, k99, k160, ite_self, nI_add, nI_leI, nI_ltI, nI_eq, nI_clamp, nI_sub', nI_mul, vpb_n, eq_self, implies_true, grd_t, grd_i, if_pos, if_neg, bI_k, bV_k, bx0, bx1, mh0, mh1, rd_s, rd_o, rd_j, rd_2k, rdL_1k, ↓reduceIte, Bool.false_eq_true, Bool.true_eq_false, Nat.add_eq, Nat.zero_add, Nat.add_zero, not_true_eq_false, not_false_eq_true, k100]
  refine lp (σ := MW) (F := fun m w' i => f_Sh_takeRow_15 (35 + 2 * s) m w' (nI len) (nI i)) (fun w' i => w'.1 (35 + 2 * s) 0 = nI (100 + t) ∧ w'.1 (35 + 2 * s) 1 = nI len ∧ (∀ j, j < i → w'.2.1 (35 + 2 * s + 1) j = Int64.ofNat 0) ∧ (∀ a, a ≠ 35 + 2 * s → w'.1 a = w.1 a) ∧ (∀ a, a ≠ 35 + 2 * s + 1 → w'.2.1 a = w.2.1 a) ∧ w'.2.2 = w.2.2) len 0 _ ⟨?_, ?_, ?_, ?_, ?_, ?_⟩ (by omega) (by omega) ?_ ?_
  · rw [rd_j (by omega), rd_s]
  · rw [rd_s]
  · intro j hj
    omega
  · intro a q
    rw [rd_o q, rd_o q]
  · intro a q
    rw [rd_2, rd_2]
  · rw [rd_2, rd_2]
  · intro m w' hi
    show Ev (f_Sh_takeRow_15 (35 + 2 * s) (m + 1) w' (nI len) (nI len)) _
    rw [f_Sh_takeRow_15]
    simp (disch := omega) only [k0, k1, k2, k3, k4, k5, k6, k7, k8, k9, k10, k12, k20, k30, k31, k40, k99, k160, ite_self, nI_add, nI_leI, nI_ltI, nI_eq, nI_clamp, nI_sub', nI_mul, vpb_n, eq_self, implies_true, grd_t, grd_i, if_pos, if_neg, bI_k, bV_k, bx0, bx1, mh0, mh1, rd_s, rd_o, rd_j, rd_2k, rdL_1k, ↓reduceIte, Bool.false_eq_true, Bool.true_eq_false, Nat.add_eq, Nat.zero_add, Nat.add_zero, not_true_eq_false, not_false_eq_true]
    exact Ev.v hi
  · intro m w' i _ hi hinv kk
    obtain ⟨i1, i2, i3, i4, i5, i6⟩ := hinv
    show Ev (f_Sh_takeRow_15 (35 + 2 * s) (m + 1) w' (nI len) (nI i)) _
    rw [f_Sh_takeRow_15]
    simp (disch := omega) only [k0, k1, k2, k3, k4, k5, k6, k7, k8, k9, k10, k12, k20, k30, k31, k40, k99, k160, ite_self, nI_add, nI_leI, nI_ltI, nI_eq, nI_clamp, nI_sub', nI_mul, vpb_n, eq_self, implies_true, grd_t, grd_i, if_pos, if_neg, bI_k, bV_k, bx0, bx1, mh0, mh1, rd_s, rd_o, rd_j, rd_2k, rdL_1k, ↓reduceIte, Bool.false_eq_true, Bool.true_eq_false, Nat.add_eq, Nat.zero_add, Nat.add_zero, not_true_eq_false, not_false_eq_true]
    refine kk _ ⟨i1, i2, fun j hj => ?_, i4, fun a q => by rw [rdL_o q]; exact i5 a q, by rw [rdL_22]; exact i6⟩
    by_cases q : j = i
    · subst q
      rw [rdL_s]
    · rw [rdL_j q]
      exact i3 j (by omega)
theorem M_rowLoop {w : MW} {s : Nat} (hs : s < 8) : EI (f_M_row_77 FU w (nI s) (nI 0)) (fun v w' => v = nI 1 ∧ (∀ i, i < 160 → w'.2.1 65 (160 * s + i) = Int64.ofNat 0) ∧ w'.1 = w.1 ∧ (∀ a, a ≠ 65 → w'.2.1 a = w.2.1 a) ∧ (∀ i, (i < 160 * s ∨ 160 * s + 160 ≤ i) → w'.2.1 65 i = w.2.1 65 i) ∧ w'.2.2 = w.2.2) := by
  refine lp (σ := MW) (F := fun m w' i => f_M_row_77 m w' (nI s) (nI i)) (fun w' i => (∀ j, j < i → w'.2.1 65 (160 * s + j) = Int64.ofNat 0) ∧ w'.1 = w.1 ∧ (∀ a, a ≠ 65 → w'.2.1 a = w.2.1 a) ∧ (∀ i, (i < 160 * s ∨ 160 * s + 160 ≤ i) → w'.2.1 65 i = w.2.1 65 i) ∧ w'.2.2 = w.2.2) 160 0 w ⟨fun j hj => by omega, rfl, fun _ _ => rfl, fun _ _ => rfl, rfl⟩ (by omega) (by omega) ?_ ?_
  · intro m w' hi
    show Ev (f_M_row_77 (m + 1) w' (nI s) (nI 160)) _
    rw [f_M_row_77]
    simp (disch := omega) only [k0, k1, k2, k3, k4, k5, k6, k7, k8, k9, k10, k12, k20, k30, k31, k40, k99, k160, ite_self, nI_add, nI_leI, nI_ltI, nI_eq, nI_clamp, nI_sub', nI_mul, vpb_n, eq_self, implies_true, grd_t, grd_i, if_pos, if_neg, bI_k, bV_k, bx0, bx1, mh0, mh1, rd_s, rd_o, rd_j, rd_2k, rdL_1k, ↓reduceIte, Bool.false_eq_true, Bool.true_eq_false, Nat.add_eq, Nat.zero_add, Nat.add_zero, not_true_eq_false, not_false_eq_true]
    exact Ev.i ⟨rfl, hi⟩
  · intro m w' i _ hi hinv kk
    obtain ⟨i1, i2, i3, i4, i5⟩ := hinv
    show Ev (f_M_row_77 (m + 1) w' (nI s) (nI i)) _
    rw [f_M_row_77]
    simp (disch := omega) only [k0, k1, k2, k3, k4, k5, k6, k7, k8, k9, k10, k12, k20, k30, k31, k40, k99, k160, ite_self, nI_add, nI_leI, nI_ltI, nI_eq, nI_clamp, nI_sub', nI_mul, vpb_n, eq_self, implies_true, grd_t, grd_i, if_pos, if_neg, bI_k, bV_k, bx0, bx1, mh0, mh1, rd_s, rd_o, rd_j, rd_2k, rdL_1k, ↓reduceIte, Bool.false_eq_true, Bool.true_eq_false, Nat.add_eq, Nat.zero_add, Nat.add_zero, not_true_eq_false, not_false_eq_true]
    refine kk _ ⟨fun j hj => ?_, by rw [rdL_1]; exact i2, fun a q => by rw [rdL_o q]; exact i3 a q, fun l q => by rw [rdL_j (by omega)]; exact i4 l q, by rw [rdL_22]; exact i5⟩
    by_cases q : j = i
    · subst q
      rw [rdL_s]
    · rw [rdL_j (by omega)]
      exact i1 j (by omega)
theorem sim_row (x1 x2 x3 : Int32) : SIM (fun w => f_X_row w x1 x2 x3) (fun w => f_M_row w x1 x2 x3) := by
  intro sc N w h
  show EI (f_X_row w x1 x2 x3) _
  unfold f_X_row
  rcases tri x1 8 (by omega) with hb | ⟨s, hs, rfl⟩
  · rw [isSh_b hb]
    simp (disch := omega) only [k0, k1, k2, k3, k4, k5, k6, k7, k8, k9, k10, k12, k20, k30, k31, k40, k99, k160, ite_self, nI_add, nI_leI, nI_ltI, nI_eq, nI_clamp, nI_sub', nI_mul, vpb_n, eq_self, implies_true, grd_t, grd_i, if_pos, if_neg, bI_k, bV_k, bx0, bx1, mh0, mh1, rd_s, rd_o, rd_j, rd_2k, rdL_1k, ↓reduceIte, Bool.false_eq_true, Bool.true_eq_false, Nat.add_eq, Nat.zero_add, Nat.add_zero, not_true_eq_false, not_false_eq_true]
    refine Ev.i ?_
    show EI (f_M_row (u_X_refuse w (-nI 1)) x1 x2 x3) _
    unfold f_M_row
    rw [w7_b hb]
    simp (disch := omega) only [k0, k1, k2, k3, k4, k5, k6, k7, k8, k9, k10, k12, k20, k30, k31, k40, k99, k160, ite_self, nI_add, nI_leI, nI_ltI, nI_eq, nI_clamp, nI_sub', nI_mul, vpb_n, eq_self, implies_true, grd_t, grd_i, if_pos, if_neg, bI_k, bV_k, bx0, bx1, mh0, mh1, rd_s, rd_o, rd_j, rd_2k, rdL_1k, ↓reduceIte, Bool.false_eq_true, Bool.true_eq_false, Nat.add_eq, Nat.zero_add, Nat.add_zero, not_true_eq_false, not_false_eq_true]
    exact Ev.i ⟨rfl, inv_ref h (by omega) (by omega)⟩
  rw [isSh_g hs]
  rcases Decidable.em (nI 0 ≤ x3) with c3 | c3
  · obtain ⟨len, hlen, rfl⟩ : ∃ k, k < 2 ^ 31 ∧ x3 = nI k := nI_of (Int32.not_lt.mpr c3)
    rcases tri x2 4 (by omega) with hb | ⟨t, ht, rfl⟩
    · have r6 : EI (f_M_row (u_X_refuse w (-nI 6)) (nI s) x2 (nI len)) (fun v' w2 => v' = -nI 6 ∧ Inv sc N w2) := by
        unfold f_M_row
        have e3 : v_M_within (u_X_refuse w (-nI 6)) x2 (0 : Int32) (3 : Int32) = nI 0 := wi_b (n := 4) (by omega) (by decide) hb
        rw [w7_g hs, e3]
        simp (disch := omega) only [k0, k1, k2, k3, k4, k5, k6, k7, k8, k9, k10, k12, k20, k30, k31, k40, k99, k160, ite_self, nI_add, nI_leI, nI_ltI, nI_eq, nI_clamp, nI_sub', nI_mul, vpb_n, eq_self, implies_true, grd_t, grd_i, if_pos, if_neg, bI_k, bV_k, bx0, bx1, mh0, mh1, rd_s, rd_o, rd_j, rd_2k, rdL_1k, ↓reduceIte, Bool.false_eq_true, Bool.true_eq_false, Nat.add_eq, Nat.zero_add, Nat.add_zero, not_true_eq_false, not_false_eq_true]
        exact Ev.i ⟨rfl, inv_ref h (by omega) (by omega)⟩
      rcases hb with q | q
      · have q' : x2 < nI 0 := q
        simp (disch := omega) only [k0, k1, k2, k3, k4, k5, k6, k7, k8, k9, k10, k12, k20, k30, k31, k40, k99, k160, ite_self, nI_add, nI_leI, nI_ltI, nI_eq, nI_clamp, nI_sub', nI_mul, vpb_n, eq_self, implies_true, grd_t, grd_i, if_pos, if_neg, bI_k, bV_k, bx0, bx1, mh0, mh1, rd_s, rd_o, rd_j, rd_2k, rdL_1k, ↓reduceIte, Bool.false_eq_true, Bool.true_eq_false, Nat.add_eq, Nat.zero_add, Nat.add_zero, not_true_eq_false, not_false_eq_true, q']
        exact Ev.i r6
      · have q3 : ¬ x2 < nI 4 := Int32.not_lt.mpr q
        by_cases q0 : x2 < nI 0
        · simp (disch := omega) only [k0, k1, k2, k3, k4, k5, k6, k7, k8, k9, k10, k12, k20, k30, k31, k40, k99, k160, ite_self, nI_add, nI_leI, nI_ltI, nI_eq, nI_clamp, nI_sub', nI_mul, vpb_n, eq_self, implies_true, grd_t, grd_i, if_pos, if_neg, bI_k, bV_k, bx0, bx1, mh0, mh1, rd_s, rd_o, rd_j, rd_2k, rdL_1k, ↓reduceIte, Bool.false_eq_true, Bool.true_eq_false, Nat.add_eq, Nat.zero_add, Nat.add_zero, not_true_eq_false, not_false_eq_true, q0]
          exact Ev.i r6
        · simp (disch := omega) only [k0, k1, k2, k3, k4, k5, k6, k7, k8, k9, k10, k12, k20, k30, k31, k40, k99, k160, ite_self, nI_add, nI_leI, nI_ltI, nI_eq, nI_clamp, nI_sub', nI_mul, vpb_n, eq_self, implies_true, grd_t, grd_i, if_pos, if_neg, bI_k, bV_k, bx0, bx1, mh0, mh1, rd_s, rd_o, rd_j, rd_2k, rdL_1k, ↓reduceIte, Bool.false_eq_true, Bool.true_eq_false, Nat.add_eq, Nat.zero_add, Nat.add_zero, not_true_eq_false, not_false_eq_true, q0, q3]
          exact Ev.i r6
    have e3 : ∀ w', v_M_within w' (nI t) (0 : Int32) (3 : Int32) = nI 1 := fun w' => wi_g (n := 4) (by omega) (by decide) ht
    have t0 : ¬ nI t < nI 0 := nI_pos (by omega)
    by_cases q : len ≤ 160
    · simp (disch := omega) only [k0, k1, k2, k3, k4, k5, k6, k7, k8, k9, k10, k12, k20, k30, k31, k40, k99, k160, ite_self, nI_add, nI_leI, nI_ltI, nI_eq, nI_clamp, nI_sub', nI_mul, vpb_n, eq_self, implies_true, grd_t, grd_i, if_pos, if_neg, bI_k, bV_k, bx0, bx1, mh0, mh1, rd_s, rd_o, rd_j, rd_2k, rdL_1k, ↓reduceIte, Bool.false_eq_true, Bool.true_eq_false, Nat.add_eq, Nat.zero_add, Nat.add_zero, not_true_eq_false, not_false_eq_true, t0]
      refine Ev.bV (X_takeRow hs q) (fun w1 h1 => ?_)
      obtain ⟨a1, a2, a3, a4, a5, a6⟩ := h1
      refine Ev.i ?_
      show EI (f_M_row w1 (nI s) (nI t) (nI len)) _
      unfold f_M_row
      rw [w7_g hs, e3]
      simp (disch := omega) only [k0, k1, k2, k3, k4, k5, k6, k7, k8, k9, k10, k12, k20, k30, k31, k40, k99, k160, ite_self, nI_add, nI_leI, nI_ltI, nI_eq, nI_clamp, nI_sub', nI_mul, vpb_n, eq_self, implies_true, grd_t, grd_i, if_pos, if_neg, bI_k, bV_k, bx0, bx1, mh0, mh1, rd_s, rd_o, rd_j, rd_2k, rdL_1k, ↓reduceIte, Bool.false_eq_true, Bool.true_eq_false, Nat.add_eq, Nat.zero_add, Nat.add_zero, not_true_eq_false, not_false_eq_true, k100]
      refine EI.mono (M_rowLoop hs) (fun v w2 h2 => ?_)
      obtain ⟨rfl, b1, b2, b3, b4, b5⟩ := h2
      refine ⟨rfl, inv_sh h hs (fun a j q1 q2 q3 => ?_) (fun a q1 q2 => ?_) (fun i q1 => ?_) ?_ (fun n' _ _ => .inr (.inr ⟨t, len, ht, q, ?_, ?_, ?_, ?_, fun i hi => ?_⟩))⟩
      · rw [b2, rd_ite, if_neg (by omega), rd_ite, if_neg (by omega), a4 a q1]
      · rw [b3 a q2]
        show w1.2.1 a = _
        exact a5 a q1
      · rw [b4 i q1]
        show w1.2.1 65 i = _
        rw [a5 65 (by omega)]
      · rw [b5]
        exact a6
      · rw [b2, rd_o (by omega), rd_o (by omega)]
        exact a1
      · rw [b2, rd_o (by omega), rd_s]
      · rw [b2, rd_o (by omega), rd_o (by omega)]
        exact a2
      · rw [b2, rd_s]
      · rw [b1 i (by omega), b3 _ (by omega)]
        exact a3 i hi
    · simp (disch := omega) only [k0, k1, k2, k3, k4, k5, k6, k7, k8, k9, k10, k12, k20, k30, k31, k40, k99, k160, ite_self, nI_add, nI_leI, nI_ltI, nI_eq, nI_clamp, nI_sub', nI_mul, vpb_n, eq_self, implies_true, grd_t, grd_i, if_pos, if_neg, bI_k, bV_k, bx0, bx1, mh0, mh1, rd_s, rd_o, rd_j, rd_2k, rdL_1k, ↓reduceIte, Bool.false_eq_true, Bool.true_eq_false, Nat.add_eq, Nat.zero_add, Nat.add_zero, not_true_eq_false, not_false_eq_true, t0]
      refine Ev.i ?_
      show EI (f_M_row (u_X_refuse w (-nI 7)) (nI s) (nI t) (nI len)) _
      unfold f_M_row
      rw [w7_g hs, e3]
      simp (disch := omega) only [k0, k1, k2, k3, k4, k5, k6, k7, k8, k9, k10, k12, k20, k30, k31, k40, k99, k160, ite_self, nI_add, nI_leI, nI_ltI, nI_eq, nI_clamp, nI_sub', nI_mul, vpb_n, eq_self, implies_true, grd_t, grd_i, if_pos, if_neg, bI_k, bV_k, bx0, bx1, mh0, mh1, rd_s, rd_o, rd_j, rd_2k, rdL_1k, ↓reduceIte, Bool.false_eq_true, Bool.true_eq_false, Nat.add_eq, Nat.zero_add, Nat.add_zero, not_true_eq_false, not_false_eq_true]
      exact Ev.i ⟨rfl, inv_ref h (by omega) (by omega)⟩
  · simp (disch := omega) only [k0, k1, k2, k3, k4, k5, k6, k7, k8, k9, k10, k12, k20, k30, k31, k40, k99, k160, ite_self, nI_add, nI_leI, nI_ltI, nI_eq, nI_clamp, nI_sub', nI_mul, vpb_n, eq_self, implies_true, grd_t, grd_i, if_pos, if_neg, bI_k, bV_k, bx0, bx1, mh0, mh1, rd_s, rd_o, rd_j, rd_2k, rdL_1k, ↓reduceIte, Bool.false_eq_true, Bool.true_eq_false, Nat.add_eq, Nat.zero_add, Nat.add_zero, not_true_eq_false, not_false_eq_true, c3]
    refine Ev.i ?_
    show EI (f_M_row (u_X_refuse w (-nI 4)) (nI s) x2 x3) _
    unfold f_M_row
    rw [w7_g hs]
    simp (disch := omega) only [k0, k1, k2, k3, k4, k5, k6, k7, k8, k9, k10, k12, k20, k30, k31, k40, k99, k160, ite_self, nI_add, nI_leI, nI_ltI, nI_eq, nI_clamp, nI_sub', nI_mul, vpb_n, eq_self, implies_true, grd_t, grd_i, if_pos, if_neg, bI_k, bV_k, bx0, bx1, mh0, mh1, rd_s, rd_o, rd_j, rd_2k, rdL_1k, ↓reduceIte, Bool.false_eq_true, Bool.true_eq_false, Nat.add_eq, Nat.zero_add, Nat.add_zero, not_true_eq_false, not_false_eq_true, c3]
    exact Ev.i ⟨rfl, inv_ref h (by omega) (by omega)⟩
theorem sim_set (x1 x2 : Int32) (z3 : Int64) : SIM (fun w => f_X_set w x1 x2 z3) (fun w => f_M_set w x1 x2 z3) := by
  intro sc N w h
  have h0 := h
  obtain ⟨⟨n, L, K, A, F, M, S, g1, g2⟩, g3, g4, g5, g6⟩ := h0
  have hn := g1.2.2.1.1
  show EI (f_X_set w x1 x2 z3) _
  unfold f_X_set
  rcases row_cases hn g2 x1 with ⟨c, h1, h2, h3, h4⟩ | ⟨s, t, len, hs, rfl, hr, h3, h4⟩
  · have e1 := noRow_c (w := w) (w' := u_X_refuse w (-nI c)) (xr_o (by omega)) x1
    rw [h4] at e1
    simp (disch := omega) only [k0, k1, k2, k3, k4, k5, k6, k7, k8, k9, k10, k12, k20, k30, k31, k40, k99, k160, ite_self, nI_add, nI_leI, nI_ltI, nI_eq, nI_clamp, nI_sub', nI_mul, vpb_n, eq_self, implies_true, grd_t, grd_i, if_pos, if_neg, bI_k, bV_k, bx0, bx1, mh0, mh1, rd_s, rd_o, rd_j, rd_2k, rdL_1k, ↓reduceIte, Bool.false_eq_true, Bool.true_eq_false, Nat.add_eq, Nat.zero_add, Nat.add_zero, not_true_eq_false, not_false_eq_true, h3, (neg_ne0 h1 (by omega : c ≤ 7)).1, v_ref]
    refine Ev.i ?_
    show EI (f_M_set (u_X_refuse w (-nI c)) x1 x2 z3) _
    unfold f_M_set
    simp (disch := omega) only [k0, k1, k2, k3, k4, k5, k6, k7, k8, k9, k10, k12, k20, k30, k31, k40, k99, k160, ite_self, nI_add, nI_leI, nI_ltI, nI_eq, nI_clamp, nI_sub', nI_mul, vpb_n, eq_self, implies_true, grd_t, grd_i, if_pos, if_neg, bI_k, bV_k, bx0, bx1, mh0, mh1, rd_s, rd_o, rd_j, rd_2k, rdL_1k, ↓reduceIte, Bool.false_eq_true, Bool.true_eq_false, Nat.add_eq, Nat.zero_add, Nat.add_zero, not_true_eq_false, not_false_eq_true, e1, (neg_ne0 h1 (by omega : c ≤ 7)).2, v_no]
    exact Ev.i ⟨rfl, inv_ref h h1 (by omega)⟩
  obtain ⟨r1, r2, r3, r4, r5, r6, r7⟩ := hr
  rcases tri x2 len (by omega) with hb | ⟨i, hi, rfl⟩
  · have e2 := has_b r5 hb
    simp (disch := omega) only [k0, k1, k2, k3, k4, k5, k6, k7, k8, k9, k10, k12, k20, k30, k31, k40, k99, k160, ite_self, nI_add, nI_leI, nI_ltI, nI_eq, nI_clamp, nI_sub', nI_mul, vpb_n, eq_self, implies_true, grd_t, grd_i, if_pos, if_neg, bI_k, bV_k, bx0, bx1, mh0, mh1, rd_s, rd_o, rd_j, rd_2k, rdL_1k, ↓reduceIte, Bool.false_eq_true, Bool.true_eq_false, Nat.add_eq, Nat.zero_add, Nat.add_zero, not_true_eq_false, not_false_eq_true, h3, e2]
    refine Ev.i ?_
    show EI (f_M_set (u_X_refuse w (-nI 5)) (nI s) x2 z3) _
    unfold f_M_set
    have e1 := noRow_c (w := w) (w' := u_X_refuse w (-nI 5)) (xr_o (by omega)) (nI s)
    rw [h4] at e1
    have e4 : v_M_within (u_X_refuse w (-nI 5)) x2 (nI 0) ((u_X_refuse w (-nI 5)).1 64 s - nI 1) = nI 0 := wi_b (n := len) (by omega) (by rw [xr_o (by omega), r6]) hb
    simp (disch := omega) only [k0, k1, k2, k3, k4, k5, k6, k7, k8, k9, k10, k12, k20, k30, k31, k40, k99, k160, ite_self, nI_add, nI_leI, nI_ltI, nI_eq, nI_clamp, nI_sub', nI_mul, vpb_n, eq_self, implies_true, grd_t, grd_i, if_pos, if_neg, bI_k, bV_k, bx0, bx1, mh0, mh1, rd_s, rd_o, rd_j, rd_2k, rdL_1k, ↓reduceIte, Bool.false_eq_true, Bool.true_eq_false, Nat.add_eq, Nat.zero_add, Nat.add_zero, not_true_eq_false, not_false_eq_true, e1, e4]
    exact Ev.i ⟨rfl, inv_ref h (by omega) (by omega)⟩
  have e2 := has_g r5 hi (by omega)
  have fin : ∀ v, Inv sc N (setL (setL w (35 + 2 * s + 1) i v) 65 (160 * s + i) v) := by
    intro v
    refine inv_sh h hs (fun a j q1 q2 q3 => rfl) (fun a q1 q2 => by rw [rdL_o q2, rdL_o q1]) (fun l q1 => by rw [rdL_j (by omega), rdL_o (by omega)]) rfl (fun n' _ _ => .inr (.inr ⟨t, len, r1, r2, r3, r4, r5, r6, fun l hl => ?_⟩))
    rw [rdL_o (by omega)]
    by_cases q : l = i
    · subst q
      rw [rdL_s, rdL_s]
    · rw [rdL_j q, rdL_j (by omega), rdL_o (by omega)]
      exact r7 l hl
  have em : ∀ w', v_M_within w' (nI i) (nI 0) (nI (len - 1)) = nI 1 := fun w' => wi_g (n := len) (by omega) (by rw [pk_sub (by omega)]) hi
  have en : ∀ w', w'.1 63 = w.1 63 → v_M_noRow w' (nI s) = nI 0 := fun w' e => (noRow_c e (nI s)).trans h4
  unfold u_Sh_put
  simp (disch := omega) only [k0, k1, k2, k3, k4, k5, k6, k7, k8, k9, k10, k12, k20, k30, k31, k40, k99, k160, ite_self, nI_add, nI_leI, nI_ltI, nI_eq, nI_clamp, nI_sub', nI_mul, vpb_n, eq_self, implies_true, grd_t, grd_i, if_pos, if_neg, bI_k, bV_k, bx0, bx1, mh0, mh1, rd_s, rd_o, rd_j, rd_2k, rdL_1k, ↓reduceIte, Bool.false_eq_true, Bool.true_eq_false, Nat.add_eq, Nat.zero_add, Nat.add_zero, not_true_eq_false, not_false_eq_true, h3, e2, r3, k100]
  rcases (show t = 0 ∨ t = 1 ∨ t = 2 ∨ t = 3 by omega) with rfl | rfl | rfl | rfl
  all_goals
    simp (disch := omega) only [k0, k1, k2, k3, k4, k5, k6, k7, k8, k9, k10, k12, k20, k30, k31, k40, k99, k160, ite_self, nI_add, nI_leI, nI_ltI, nI_eq, nI_clamp, nI_sub', nI_mul, vpb_n, eq_self, implies_true, grd_t, grd_i, if_pos, if_neg, bI_k, bV_k, bx0, bx1, mh0, mh1, rd_s, rd_o, rd_j, rd_2k, rdL_1k, ↓reduceIte, Bool.false_eq_true, Bool.true_eq_false, Nat.add_eq, Nat.zero_add, Nat.add_zero, not_true_eq_false, not_false_eq_true]
    refine Ev.i ?_
    show EI (f_M_set _ (nI s) (nI i) z3) _
    unfold f_M_set
    rw [en _ (by rw [rdL_1])]
    simp (disch := omega) only [k0, k1, k2, k3, k4, k5, k6, k7, k8, k9, k10, k12, k20, k30, k31, k40, k99, k160, ite_self, nI_add, nI_leI, nI_ltI, nI_eq, nI_clamp, nI_sub', nI_mul, vpb_n, eq_self, implies_true, grd_t, grd_i, if_pos, if_neg, bI_k, bV_k, bx0, bx1, mh0, mh1, rd_s, rd_o, rd_j, rd_2k, rdL_1k, ↓reduceIte, Bool.false_eq_true, Bool.true_eq_false, Nat.add_eq, Nat.zero_add, Nat.add_zero, not_true_eq_false, not_false_eq_true, r4, r6, k100, em]
    exact Ev.i ⟨rfl, fin _⟩
