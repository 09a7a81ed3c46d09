/-! says -/
def undV (k kq : Nat) : Nat := if k = kq ∨ kq = 0 ∨ (k = 3 ∧ kq = 1) ∨ (k = 5 ∧ kq = 2) ∨ (k = 6 ∧ kq = 4) then 1 else 0
theorem und_step {w : MW} {n k kq x : Nat} {v : Int32} (hk : k < 7) (hkq : kq < 7) (hx : x < 7) (hv : w.1 81 k = v) : f_X_isUnder_4 (n + 1) w (nI kq) (nI k) (nI x) = if k = kq then some (some (.int (nI 1)), w) else f_X_isUnder_4 n w (nI kq) v (nI (x + 1)) := by
  rw [f_X_isUnder_4, isKd_g hk]
  simp (disch := omega) only [k0, k1, k2, k3, k4, k5, k6, k7, k8, k9, k10, k12, k20, k30, k31, k40, k99, k160, ite_self, nI_add, nI_leI, nI_ltI, nI_eq, nI_clamp, nI_sub', nI_mul, vpb_n, eq_self, implies_true, grd_t, grd_i, if_pos, if_neg, bI_k, bV_k, bx0, bx1, mh0, mh1, rd_s, rd_o, rd_j, rd_2k, rdL_1k, ↓reduceIte, Bool.false_eq_true, Bool.true_eq_false, Nat.add_eq, Nat.zero_add, Nat.add_zero, not_true_eq_false, not_false_eq_true, hv]
theorem und_stop {w : MW} {n kq x : Nat} (hx : x < 7) : f_X_isUnder_4 (n + 1) w (nI kq) (-nI 1) (nI x) = some (some (.int (nI 0)), w) := by
  rw [f_X_isUnder_4, isKd_b (.inl (by decide))]
  simp (disch := omega) only [k0, k1, k2, k3, k4, k5, k6, k7, k8, k9, k10, k12, k20, k30, k31, k40, k99, k160, ite_self, nI_add, nI_leI, nI_ltI, nI_eq, nI_clamp, nI_sub', nI_mul, vpb_n, eq_self, implies_true, grd_t, grd_i, if_pos, if_neg, bI_k, bV_k, bx0, bx1, mh0, mh1, rd_s, rd_o, rd_j, rd_2k, rdL_1k, ↓reduceIte, Bool.false_eq_true, Bool.true_eq_false, Nat.add_eq, Nat.zero_add, Nat.add_zero, not_true_eq_false, not_false_eq_true]
theorem X_under {w : MW} {k kq : Nat} (ht : ∀ j, j < 7 → w.1 81 j = ABV.getD j 0) (hk : k < 7) (hkq : kq < 7) : f_X_isUnder w (nI k) (nI kq) = some (some (.int (nI (undV k kq))), w) := by
  have a0 : w.1 81 0 = -nI 1 := ht 0 (by omega)
  have a1 : w.1 81 1 = nI 0 := ht 1 (by omega)
  have a2 : w.1 81 2 = nI 0 := ht 2 (by omega)
  have a3 : w.1 81 3 = nI 1 := ht 3 (by omega)
  have a4 : w.1 81 4 = nI 0 := ht 4 (by omega)
  have a5 : w.1 81 5 = nI 2 := ht 5 (by omega)
  have a6 : w.1 81 6 = nI 4 := ht 6 (by omega)
  show f_X_isUnder_4 (995 + 1 + 1 + 1 + 1 + 1) w (nI kq) (nI k) (nI 0) = _
  unfold undV
  rcases (show k = 0 ∨ k = 1 ∨ k = 2 ∨ k = 3 ∨ k = 4 ∨ k = 5 ∨ k = 6 by omega) with rfl | rfl | rfl | rfl | rfl | rfl | rfl
  · rw [und_step (by omega) hkq (by omega) a0, und_stop (by omega)]
    split
    · rw [if_pos (by omega)]
    · rw [if_neg (by omega)]
  · rw [und_step (by omega) hkq (by omega) a1, und_step (by omega) hkq (by omega) a0, und_stop (by omega)]
    split
    · rw [if_pos (by omega)]
    split
    · rw [if_pos (by omega)]
    · rw [if_neg (by omega)]
  · rw [und_step (by omega) hkq (by omega) a2, und_step (by omega) hkq (by omega) a0, und_stop (by omega)]
    split
    · rw [if_pos (by omega)]
    split
    · rw [if_pos (by omega)]
    · rw [if_neg (by omega)]
  · rw [und_step (by omega) hkq (by omega) a3, und_step (by omega) hkq (by omega) a1, und_step (by omega) hkq (by omega) a0, und_stop (by omega)]
    split
    · rw [if_pos (by omega)]
    split
    · rw [if_pos (by omega)]
    split
    · rw [if_pos (by omega)]
    · rw [if_neg (by omega)]
  · rw [und_step (by omega) hkq (by omega) a4, und_step (by omega) hkq (by omega) a0, und_stop (by omega)]
    split
    · rw [if_pos (by omega)]
    split
    · rw [if_pos (by omega)]
    · rw [if_neg (by omega)]
  · rw [und_step (by omega) hkq (by omega) a5, und_step (by omega) hkq (by omega) a2, und_step (by omega) hkq (by omega) a0, und_stop (by omega)]
    split
    · rw [if_pos (by omega)]
    split
    · rw [if_pos (by omega)]
    split
    · rw [if_pos (by omega)]
    · rw [if_neg (by omega)]
  · rw [und_step (by omega) hkq (by omega) a6, und_step (by omega) hkq (by omega) a4, und_step (by omega) hkq (by omega) a0, und_stop (by omega)]
    split
    · rw [if_pos (by omega)]
    split
    · rw [if_pos (by omega)]
    split
    · rw [if_pos (by omega)]
    · rw [if_neg (by omega)]
def abN (k : Nat) : Nat := if k = 3 then 1 else if k = 5 then 2 else if k = 6 then 4 else 0
theorem M_above {w : MW} {k : Nat} (hk : k < 7) : v_M_above w (nI k) = nI (abN k) := by
  unfold v_M_above abN
  rcases (show k = 0 ∨ k = 1 ∨ k = 2 ∨ k = 3 ∨ k = 4 ∨ k = 5 ∨ k = 6 by omega) with rfl | rfl | rfl | rfl | rfl | rfl | rfl <;> decide
theorem mund_step {w : MW} {n k kq : Nat} (hk : k < 7) (hkq : kq < 7) : f_M_isUnder_2 (n + 1) w (nI kq) (nI k) = if k = kq then some (some (.int (nI 1)), w) else if k = 0 then some (some (.int (nI 0)), w) else f_M_isUnder_2 n w (nI kq) (nI (abN k)) := by
  rw [f_M_isUnder_2, M_above hk]
  by_cases h : k = kq
  · simp (disch := omega) only [k0, k1, k2, k3, k4, k5, k6, k7, k8, k9, k10, k12, k20, k30, k31, k40, k99, k160, ite_self, nI_add, nI_leI, nI_ltI, nI_eq, nI_clamp, nI_sub', nI_mul, vpb_n, eq_self, implies_true, grd_t, grd_i, if_pos, if_neg, bI_k, bV_k, bx0, bx1, mh0, mh1, rd_s, rd_o, rd_j, rd_2k, rdL_1k, ↓reduceIte, Bool.false_eq_true, Bool.true_eq_false, Nat.add_eq, Nat.zero_add, Nat.add_zero, not_true_eq_false, not_false_eq_true]
  · by_cases h0 : k = 0
    · simp (disch := omega) only [k0, k1, k2, k3, k4, k5, k6, k7, k8, k9, k10, k12, k20, k30, k31, k40, k99, k160, ite_self, nI_add, nI_leI, nI_ltI, nI_eq, nI_clamp, nI_sub', nI_mul, vpb_n, eq_self, implies_true, grd_t, grd_i, if_pos, if_neg, bI_k, bV_k, bx0, bx1, mh0, mh1, rd_s, rd_o, rd_j, rd_2k, rdL_1k, ↓reduceIte, Bool.false_eq_true, Bool.true_eq_false, Nat.add_eq, Nat.zero_add, Nat.add_zero, not_true_eq_false, not_false_eq_true]
    · simp (disch := omega) only [k0, k1, k2, k3, k4, k5, k6, k7, k8, k9, k10, k12, k20, k30, k31, k40, k99, k160, ite_self, nI_add, nI_leI, nI_ltI, nI_eq, nI_clamp, nI_sub', nI_mul, vpb_n, eq_self, implies_true, grd_t, grd_i, if_pos, if_neg, bI_k, bV_k, bx0, bx1, mh0, mh1, rd_s, rd_o, rd_j, rd_2k, rdL_1k, ↓reduceIte, Bool.false_eq_true, Bool.true_eq_false, Nat.add_eq, Nat.zero_add, Nat.add_zero, not_true_eq_false, not_false_eq_true]
theorem M_under {w : MW} {k kq : Nat} (hk : k < 7) (hkq : kq < 7) : f_M_isUnder w (nI k) (nI kq) = some (some (.int (nI (undV k kq))), w) := by
  show f_M_isUnder_2 (997 + 1 + 1 + 1) w (nI kq) (nI k) = _
  have b : abN k < 7 := by
    unfold abN
    split
    · omega
    split
    · omega
    split <;> omega
  have b2 : abN (abN k) = 0 := by
    have key : ∀ k, k < 7 → abN (abN k) = 0 := by decide
    exact key k hk
  rw [mund_step hk hkq, mund_step b hkq, b2, mund_step (by omega) hkq]
  unfold undV abN
  rcases (show k = 0 ∨ k = 1 ∨ k = 2 ∨ k = 3 ∨ k = 4 ∨ k = 5 ∨ k = 6 by omega) with rfl | rfl | rfl | rfl | rfl | rfl | rfl
  all_goals
    rcases (show kq = 0 ∨ kq = 1 ∨ kq = 2 ∨ kq = 3 ∨ kq = 4 ∨ kq = 5 ∨ kq = 6 by omega) with rfl | rfl | rfl | rfl | rfl | rfl | rfl
    all_goals rfl
theorem sim_says (x1 x2 : Int32) : SIM (fun w => f_X_says w x1 x2) (fun w => f_M_says w x1 x2) := by
  intro sc N w h
  have h0 := h
  obtain ⟨⟨n, L, K, A, F, M, S, g1, g2⟩, g3, g4, g5, g6⟩ := h0
  have hn := g1.2.2.1.1
  have hL := g1.2.2.1.2.1
  have ok := g1.2.2.1
  show EI (f_X_says w x1 x2) (fun v w1 => EI (f_M_says w1 x1 x2) (fun v' w2 => v' = v ∧ Inv sc N w2))
  have refX : ∀ c, 1 ≤ c → c ≤ 7 → f_M_says (u_X_refuse w (-nI c)) x1 x2 = some (some (.int (-nI c)), u_M_no (u_X_refuse w (-nI c)) (-nI c)) → EI (some (some (.int (-nI c)), u_X_refuse w (-nI c))) (fun v w1 => EI (f_M_says w1 x1 x2) (fun v' w2 => v' = v ∧ Inv sc N w2)) := by
    intro c h1 h7 e
    refine Ev.i ?_
    rw [e]
    exact Ev.i ⟨rfl, inv_ref h h1 h7⟩
  rcases tri x1 8 (by omega) with hb | ⟨s, hs8, rfl⟩
  · unfold f_X_says
    rw [isSh_b hb]
    simp (disch := omega) only [k0, k1, k2, k3, k4, k5, k6, k7, k8, k9, k10, k12, k20, k30, k31, k40, k99, k160, ite_self, nI_add, nI_leI, nI_ltI, nI_eq, nI_clamp, nI_sub', nI_mul, vpb_n, eq_self, implies_true, grd_t, grd_i, if_pos, if_neg, bI_k, bV_k, bx0, bx1, mh0, mh1, rd_s, rd_o, rd_j, rd_2k, rdL_1k, ↓reduceIte, Bool.false_eq_true, Bool.true_eq_false, Nat.add_eq, Nat.zero_add, Nat.add_zero, not_true_eq_false, not_false_eq_true, v_ref]
    refine refX 1 (by omega) (by omega) ?_
    unfold f_M_says
    rw [w7_b hb]
    simp (disch := omega) only [k0, k1, k2, k3, k4, k5, k6, k7, k8, k9, k10, k12, k20, k30, k31, k40, k99, k160, ite_self, nI_add, nI_leI, nI_ltI, nI_eq, nI_clamp, nI_sub', nI_mul, vpb_n, eq_self, implies_true, grd_t, grd_i, if_pos, if_neg, bI_k, bV_k, bx0, bx1, mh0, mh1, rd_s, rd_o, rd_j, rd_2k, rdL_1k, ↓reduceIte, Bool.false_eq_true, Bool.true_eq_false, Nat.add_eq, Nat.zero_add, Nat.add_zero, not_true_eq_false, not_false_eq_true, v_no]
  rcases tri x2 7 (by omega) with hb | ⟨kq, hkq, rfl⟩
  · unfold f_X_says
    rw [isSh_g hs8, isKd_b hb]
    simp (disch := omega) only [k0, k1, k2, k3, k4, k5, k6, k7, k8, k9, k10, k12, k20, k30, k31, k40, k99, k160, ite_self, nI_add, nI_leI, nI_ltI, nI_eq, nI_clamp, nI_sub', nI_mul, vpb_n, eq_self, implies_true, grd_t, grd_i, if_pos, if_neg, bI_k, bV_k, bx0, bx1, mh0, mh1, rd_s, rd_o, rd_j, rd_2k, rdL_1k, ↓reduceIte, Bool.false_eq_true, Bool.true_eq_false, Nat.add_eq, Nat.zero_add, Nat.add_zero, not_true_eq_false, not_false_eq_true, v_ref]
    refine refX 1 (by omega) (by omega) ?_
    unfold f_M_says
    rw [w7_g hs8, w6_b hb]
    simp (disch := omega) only [k0, k1, k2, k3, k4, k5, k6, k7, k8, k9, k10, k12, k20, k30, k31, k40, k99, k160, ite_self, nI_add, nI_leI, nI_ltI, nI_eq, nI_clamp, nI_sub', nI_mul, vpb_n, eq_self, implies_true, grd_t, grd_i, if_pos, if_neg, bI_k, bV_k, bx0, bx1, mh0, mh1, rd_s, rd_o, rd_j, rd_2k, rdL_1k, ↓reduceIte, Bool.false_eq_true, Bool.true_eq_false, Nat.add_eq, Nat.zero_add, Nat.add_zero, not_true_eq_false, not_false_eq_true, v_no]
  obtain ⟨n1, n2, n3, n4, n5⟩ := neg_lt0 (c := 1) (by omega) (by omega)
  have kM : ∀ w', v_M_within w' (nI s) (nI 0) (nI 7) = nI 1 := fun w' => w7_g hs8
  have kM2 : ∀ w', v_M_within w' (nI kq) (nI 0) (nI 6) = nI 1 := fun w' => w6_g hkq
  have x63 : ∀ c, (u_X_refuse w (-nI c)).1 63 = w.1 63 := fun c => xr_o (by omega)
  have x66 : ∀ c, (u_X_refuse w (-nI c)).1 66 = w.1 66 := fun c => xr_o (by omega)
  rcases g2 s hs8 with ⟨a1, a2, a3⟩ | ⟨m, hm, a1, a2, a3⟩ | ⟨t, len, hr⟩
  · unfold f_X_says v_Sh_isMan v_Sh_isRow
    rw [isSh_g hs8, isKd_g hkq]
    simp (disch := omega) only [k0, k1, k2, k3, k4, k5, k6, k7, k8, k9, k10, k12, k20, k30, k31, k40, k99, k160, ite_self, nI_add, nI_leI, nI_ltI, nI_eq, nI_clamp, nI_sub', nI_mul, vpb_n, eq_self, implies_true, grd_t, grd_i, if_pos, if_neg, bI_k, bV_k, bx0, bx1, mh0, mh1, rd_s, rd_o, rd_j, rd_2k, rdL_1k, ↓reduceIte, Bool.false_eq_true, Bool.true_eq_false, Nat.add_eq, Nat.zero_add, Nat.add_zero, not_true_eq_false, not_false_eq_true, a1, n1, n5, k100, v_ref]
    refine refX 3 (by omega) (by omega) ?_
    unfold f_M_says v_M_isRow
    simp (disch := omega) only [k0, k1, k2, k3, k4, k5, k6, k7, k8, k9, k10, k12, k20, k30, k31, k40, k99, k160, ite_self, nI_add, nI_leI, nI_ltI, nI_eq, nI_clamp, nI_sub', nI_mul, vpb_n, eq_self, implies_true, grd_t, grd_i, if_pos, if_neg, bI_k, bV_k, bx0, bx1, mh0, mh1, rd_s, rd_o, rd_j, rd_2k, rdL_1k, ↓reduceIte, Bool.false_eq_true, Bool.true_eq_false, Nat.add_eq, Nat.zero_add, Nat.add_zero, not_true_eq_false, not_false_eq_true, kM, kM2, x63, a2, n1, n2, v_no]
  · have m0 : ¬ nI m < nI 0 := nI_pos (by omega)
    obtain ⟨c1, c2, c3, c4⟩ := g1.1.2.2.1 m hm
    obtain ⟨d1, d2, d3, d4⟩ := g1.2.1.2.2.1 m hm
    obtain ⟨b1, b2, b3⟩ := ok.2.2 m hm
    have uM : ∀ w', f_M_isUnder w' (nI (K m)) (nI kq) = some (some (.int (nI (undV (K m) kq))), w') := fun w' => M_under b1 hkq
    by_cases hu : undV (K m) kq = 0
    · unfold f_X_says v_Sh_isMan v_Sh_isRow
      rw [isSh_g hs8, isKd_g hkq]
      simp (disch := omega) only [k0, k1, k2, k3, k4, k5, k6, k7, k8, k9, k10, k12, k20, k30, k31, k40, k99, k160, ite_self, nI_add, nI_leI, nI_ltI, nI_eq, nI_clamp, nI_sub', nI_mul, vpb_n, eq_self, implies_true, grd_t, grd_i, if_pos, if_neg, bI_k, bV_k, bx0, bx1, mh0, mh1, rd_s, rd_o, rd_j, rd_2k, rdL_1k, ↓reduceIte, Bool.false_eq_true, Bool.true_eq_false, Nat.add_eq, Nat.zero_add, Nat.add_zero, not_true_eq_false, not_false_eq_true, a1, k100, m0]
      rw [man_g g1.1.1 hm (by omega)]
      simp (disch := omega) only [k0, k1, k2, k3, k4, k5, k6, k7, k8, k9, k10, k12, k20, k30, k31, k40, k99, k160, ite_self, nI_add, nI_leI, nI_ltI, nI_eq, nI_clamp, nI_sub', nI_mul, vpb_n, eq_self, implies_true, grd_t, grd_i, if_pos, if_neg, bI_k, bV_k, bx0, bx1, mh0, mh1, rd_s, rd_o, rd_j, rd_2k, rdL_1k, ↓reduceIte, Bool.false_eq_true, Bool.true_eq_false, Nat.add_eq, Nat.zero_add, Nat.add_zero, not_true_eq_false, not_false_eq_true, c1]
      rw [X_under g6.1 b1 hkq, hu]
      simp (disch := omega) only [k0, k1, k2, k3, k4, k5, k6, k7, k8, k9, k10, k12, k20, k30, k31, k40, k99, k160, ite_self, nI_add, nI_leI, nI_ltI, nI_eq, nI_clamp, nI_sub', nI_mul, vpb_n, eq_self, implies_true, grd_t, grd_i, if_pos, if_neg, bI_k, bV_k, bx0, bx1, mh0, mh1, rd_s, rd_o, rd_j, rd_2k, rdL_1k, ↓reduceIte, Bool.false_eq_true, Bool.true_eq_false, Nat.add_eq, Nat.zero_add, Nat.add_zero, not_true_eq_false, not_false_eq_true, v_ref]
      refine refX 2 (by omega) (by omega) ?_
      unfold f_M_says v_M_isRow
      simp (disch := omega) only [k0, k1, k2, k3, k4, k5, k6, k7, k8, k9, k10, k12, k20, k30, k31, k40, k99, k160, ite_self, nI_add, nI_leI, nI_ltI, nI_eq, nI_clamp, nI_sub', nI_mul, vpb_n, eq_self, implies_true, grd_t, grd_i, if_pos, if_neg, bI_k, bV_k, bx0, bx1, mh0, mh1, rd_s, rd_o, rd_j, rd_2k, rdL_1k, ↓reduceIte, Bool.false_eq_true, Bool.true_eq_false, Nat.add_eq, Nat.zero_add, Nat.add_zero, not_true_eq_false, not_false_eq_true, kM, kM2, x63, x66, a2, d1, uM, hu, k100, m0, v_no]
    · have hu1 : undV (K m) kq = 1 := by
        unfold undV at hu ⊢
        split
        · rfl
        · next q => rw [if_neg q] at hu; exact absurd rfl hu
      have ep : f_X_thirds w (nI (F m)) (0 : Int32) (nI L) = some (some (.int (nI (thirdsN (F m) 0 L))), w) := f_thirds w (lo := 0) (by omega) (by omega) (by omega)
      have eX : f_X_says w (nI s) (nI kq) = bI (f_Mn_saysAs w (1 + 2 + m) (nI kq) (nI L)) (fun v17 w17 => some (some (.int v17), w17)) := by
        unfold f_X_says v_Sh_isMan v_Sh_isRow
        rw [isSh_g hs8, isKd_g hkq]
        simp (disch := omega) only [k0, k1, k2, k3, k4, k5, k6, k7, k8, k9, k10, k12, k20, k30, k31, k40, k99, k160, ite_self, nI_add, nI_leI, nI_ltI, nI_eq, nI_clamp, nI_sub', nI_mul, vpb_n, eq_self, implies_true, grd_t, grd_i, if_pos, if_neg, bI_k, bV_k, bx0, bx1, mh0, mh1, rd_s, rd_o, rd_j, rd_2k, rdL_1k, ↓reduceIte, Bool.false_eq_true, Bool.true_eq_false, Nat.add_eq, Nat.zero_add, Nat.add_zero, not_true_eq_false, not_false_eq_true, a1, k100, m0]
        rw [man_g g1.1.1 hm (by omega)]
        simp (disch := omega) only [k0, k1, k2, k3, k4, k5, k6, k7, k8, k9, k10, k12, k20, k30, k31, k40, k99, k160, ite_self, nI_add, nI_leI, nI_ltI, nI_eq, nI_clamp, nI_sub', nI_mul, vpb_n, eq_self, implies_true, grd_t, grd_i, if_pos, if_neg, bI_k, bV_k, bx0, bx1, mh0, mh1, rd_s, rd_o, rd_j, rd_2k, rdL_1k, ↓reduceIte, Bool.false_eq_true, Bool.true_eq_false, Nat.add_eq, Nat.zero_add, Nat.add_zero, not_true_eq_false, not_false_eq_true, c1]
        rw [X_under g6.1 b1 hkq, hu1]
        have e3 := g1.1.2.1
        simp (disch := omega) only [k0, k1, k2, k3, k4, k5, k6, k7, k8, k9, k10, k12, k20, k30, k31, k40, k99, k160, ite_self, nI_add, nI_leI, nI_ltI, nI_eq, nI_clamp, nI_sub', nI_mul, vpb_n, eq_self, implies_true, grd_t, grd_i, if_pos, if_neg, bI_k, bV_k, bx0, bx1, mh0, mh1, rd_s, rd_o, rd_j, rd_2k, rdL_1k, ↓reduceIte, Bool.false_eq_true, Bool.true_eq_false, Nat.add_eq, Nat.zero_add, Nat.add_zero, not_true_eq_false, not_false_eq_true, e3]
      rw [eX]
      unfold f_Mn_saysAs
      rw [X_placesOf w c1 c2 c3 b1 (by omega) b3 (by omega)]
      simp only [bI_k]
      rw [c3, ep]
      simp only [bI_k]
      have hM := M_hisOf g1.2.1 ok hm
      have hP : f_M_his w (nI 0) (nI 0) (nI (F m)) = some (some (.int (nI (thirdsN (F m) 0 L))), w) := by
        rw [M_hisA w (k := 0) (by omega) (by omega) b3 hL g1.2.1.2.1, pl0]
      have eM : f_M_says w (nI s) (nI kq) = some (some (.int (if kq = 0 then nI (F m) else if kq = 1 then pc (hs K A F L m) - pc (nI (thirdsN (F m) 0 L)) else if kq = 2 then pc (nI (thirdsN (F m) 0 L)) - pc (hs K A F L m) else if kq = 3 then pc (hs K A F L m) - pc (nI (thirdsN (F m) 0 L)) else if kq = 5 then pc (nI (thirdsN (F m) 0 L)) - pc (hs K A F L m) else pc (hs K A F L m &&& (nI (thirdsN (F m) 0 L) ^^^ (-nI 1))))), w) := by
        unfold f_M_says v_M_isRow
        rcases (show kq = 0 ∨ kq = 1 ∨ kq = 2 ∨ kq = 3 ∨ kq = 4 ∨ kq = 5 ∨ kq = 6 by omega) with rfl | rfl | rfl | rfl | rfl | rfl | rfl
        all_goals simp (disch := omega) only [k0, k1, k2, k3, k4, k5, k6, k7, k8, k9, k10, k12, k20, k30, k31, k40, k99, k160, ite_self, nI_add, nI_leI, nI_ltI, nI_eq, nI_clamp, nI_sub', nI_mul, vpb_n, eq_self, implies_true, grd_t, grd_i, if_pos, if_neg, bI_k, bV_k, bx0, bx1, mh0, mh1, rd_s, rd_o, rd_j, rd_2k, rdL_1k, ↓reduceIte, Bool.false_eq_true, Bool.true_eq_false, Nat.add_eq, Nat.zero_add, Nat.add_zero, not_true_eq_false, not_false_eq_true, kM, kM2, a2, d1, d3, uM, hu1, k100, m0, hM, hP, bk]
      have fin : ∀ v, v = (if kq = 0 then nI (F m) else if kq = 1 then pc (hs K A F L m) - pc (nI (thirdsN (F m) 0 L)) else if kq = 2 then pc (nI (thirdsN (F m) 0 L)) - pc (hs K A F L m) else if kq = 3 then pc (hs K A F L m) - pc (nI (thirdsN (F m) 0 L)) else if kq = 5 then pc (nI (thirdsN (F m) 0 L)) - pc (hs K A F L m) else pc (hs K A F L m &&& (nI (thirdsN (F m) 0 L) ^^^ (-nI 1)))) → EI (some (some (.int v), w)) (fun v w1 => EI (f_M_says w1 (nI s) (nI kq)) (fun v' w2 => v' = v ∧ Inv sc N w2)) := by
        intro v hv
        refine Ev.i ?_
        rw [eM, hv]
        exact Ev.i ⟨rfl, h⟩
      have hh : hs K A F L m = nI (placesN (K m) (A m) (F m) L) := rfl
      rcases (show kq = 0 ∨ kq = 1 ∨ kq = 2 ∨ kq = 3 ∨ kq = 4 ∨ kq = 5 ∨ kq = 6 by omega) with rfl | rfl | rfl | rfl | rfl | rfl | rfl
      all_goals
        simp (disch := omega) only [k0, k1, k2, k3, k4, k5, k6, k7, k8, k9, k10, k12, k20, k30, k31, k40, k99, k160, ite_self, nI_add, nI_leI, nI_ltI, nI_eq, nI_clamp, nI_sub', nI_mul, vpb_n, eq_self, implies_true, grd_t, grd_i, if_pos, if_neg, bI_k, bV_k, bx0, bx1, mh0, mh1, rd_s, rd_o, rd_j, rd_2k, rdL_1k, ↓reduceIte, Bool.false_eq_true, Bool.true_eq_false, Nat.add_eq, Nat.zero_add, Nat.add_zero, not_true_eq_false, not_false_eq_true, c3, bk]
        exact fin _ rfl
  · obtain ⟨r1, r2, r3, r4, r5, r6, r7⟩ := hr
    have t0 : ¬ nI (100 + t) < nI 0 := nI_pos (by omega)
    unfold f_X_says v_Sh_isMan v_Sh_isRow
    rw [isSh_g hs8, isKd_g hkq]
    simp (disch := omega) only [k0, k1, k2, k3, k4, k5, k6, k7, k8, k9, k10, k12, k20, k30, k31, k40, k99, k160, ite_self, nI_add, nI_leI, nI_ltI, nI_eq, nI_clamp, nI_sub', nI_mul, vpb_n, eq_self, implies_true, grd_t, grd_i, if_pos, if_neg, bI_k, bV_k, bx0, bx1, mh0, mh1, rd_s, rd_o, rd_j, rd_2k, rdL_1k, ↓reduceIte, Bool.false_eq_true, Bool.true_eq_false, Nat.add_eq, Nat.zero_add, Nat.add_zero, not_true_eq_false, not_false_eq_true, r3, k100, v_ref]
    refine refX 2 (by omega) (by omega) ?_
    unfold f_M_says v_M_isRow
    simp (disch := omega) only [k0, k1, k2, k3, k4, k5, k6, k7, k8, k9, k10, k12, k20, k30, k31, k40, k99, k160, ite_self, nI_add, nI_leI, nI_ltI, nI_eq, nI_clamp, nI_sub', nI_mul, vpb_n, eq_self, implies_true, grd_t, grd_i, if_pos, if_neg, bI_k, bV_k, bx0, bx1, mh0, mh1, rd_s, rd_o, rd_j, rd_2k, rdL_1k, ↓reduceIte, Bool.false_eq_true, Bool.true_eq_false, Nat.add_eq, Nat.zero_add, Nat.add_zero, not_true_eq_false, not_false_eq_true, kM, kM2, x63, r4, k100, t0, v_no]
