/-! would, trace, status -/
theorem X_told {w : MW} {s len m : Nat} {E : Nat → Int32} {x : Int32} (hs : s < 8) (hm : m ≤ 30) (hml : m ≤ len) (hl : len ≤ 160) (e : w.1 (35 + 2 * s) 1 = nI len) (hE : ∀ i, i < len → (w.2.1 (35 + 2 * s + 1) i).toInt32 = E i) :
    EI (f_Cl_senseOfTold w (35 + 2 * s) (nI m) x) (fun v w' => v = senV E m x ∧ FX w w') := by
  unfold f_Cl_senseOfTold
  refine lp (σ := MW) (F := fun q w' i => f_Cl_senseOfTold_3 (35 + 2 * s) q w' (nI m) x (nI i)) (fun w' i => FX w w' ∧ ∀ p, p < i → w'.1 58 p = E p) m 0 w ⟨FX.rfl w, fun p hp => by omega⟩ (by omega) (by omega) ?_ ?_
  · intro q w' hi
    obtain ⟨i1, i2⟩ := hi
    show Ev (f_Cl_senseOfTold_3 (35 + 2 * s) (q + 1) w' (nI m) x (nI m)) _
    rw [f_Cl_senseOfTold_3]
    simp (disch := omega) only [k0, k1, k2, k3, k4, k5, k6, k7, k8, k9, k10, k12, k20, k30, k31, k40, k99, k160, ite_self, nI_add, nI_leI, nI_ltI, nI_eq, nI_clamp, nI_sub', nI_mul, vpb_n, eq_self, implies_true, grd_t, grd_i, if_pos, if_neg, bI_k, bV_k, bx0, bx1, mh0, mh1, rd_s, rd_o, rd_j, rd_2k, rdL_1k, ↓reduceIte, Bool.false_eq_true, Bool.true_eq_false, Nat.add_eq, Nat.zero_add, Nat.add_zero, not_true_eq_false, not_false_eq_true]
    rw [X_sense w' 58 E m x hm rfl i2]
    exact Ev.i ⟨rfl, i1⟩
  · intro q w' i _ hi hinv kk
    obtain ⟨i1, i2⟩ := hinv
    have e' : w'.1 (35 + 2 * s) 1 = nI len := by
      rw [i1.1 (35 + 2 * s) (by omega) (by omega)]
      exact e
    show Ev (f_Cl_senseOfTold_3 (35 + 2 * s) (q + 1) w' (nI m) x (nI i)) _
    rw [f_Cl_senseOfTold_3, asInt_e (E := E) e' hl (by rw [i1.2]; exact hE i (by omega)) (by omega)]
    simp (disch := omega) only [k0, k1, k2, k3, k4, k5, k6, k7, k8, k9, k10, k12, k20, k30, k31, k40, k99, k160, ite_self, nI_add, nI_leI, nI_ltI, nI_eq, nI_clamp, nI_sub', nI_mul, vpb_n, eq_self, implies_true, grd_t, grd_i, if_pos, if_neg, bI_k, bV_k, bx0, bx1, mh0, mh1, rd_s, rd_o, rd_j, rd_2k, rdL_1k, ↓reduceIte, Bool.false_eq_true, Bool.true_eq_false, Nat.add_eq, Nat.zero_add, Nat.add_zero, not_true_eq_false, not_false_eq_true]
    refine kk _ ⟨i1.set (by omega), fun p hp => ?_⟩
    by_cases q : p = i
    · subst q
      rw [rd_s]
    · rw [rd_j q]
      exact i2 p (by omega)
theorem M_would {w : MW} {n L s m i : Nat} {K A F : Nat → Nat} {M S E : Nat → Int32} (rm : RM w n L K A F M S) (ok : OK n L K A F) (hs : s < 8) (hm : m ≤ 30) (hi : i < n) (hE : ∀ i, i < m → (w.2.1 65 (160 * s + i)).toInt32 = E i) :
    EI (bV (f_M_keep w 76) (fun w7 => f_M_would_67 FU (setI w7 62 10 (nI m)) (nI s) (nI m) (nI i) (nI 0))) (fun v w' => v = senV E m (nI (placesN (K i) (A i) (F i) m)) ∧ FQ w w') := by
  have hn := ok.1
  refine Ev.bV (M_keep (a1 := 76) (by omega) (by omega)) (fun w1 h1 => ?_)
  have fk1 := FK.start h1.1 h1.2.1 h1.2.2
  have fk2 := fk1.set (a := 62) (j := 10) (v := nI m) (.inr (.inr (by omega)))
  have rm1 : RM w1 n L K A F M S := rm.key (fun a j q _ => h1.1 a j (by omega))
  obtain ⟨r1, r2, r3, r4⟩ := rm1
  refine lp (σ := MW) (F := fun q w' p => f_M_would_67 q w' (nI s) (nI m) (nI i) (nI p)) (fun w' p => FK w w' ∧ w'.1 62 3 = nI n ∧ w'.1 62 10 = nI m ∧ (∀ a, 66 ≤ a → a ≤ 71 → w'.1 a = w1.1 a) ∧ (∀ l, l < p → w'.1 72 l = E l) ∧ w'.2 = w1.2) m 0 _ ⟨fk2, ?_, ?_, ?_, ?_, ?_⟩ (by omega) (by omega) ?_ ?_
  · rw [rd_j (by omega)]
    exact r1
  · rw [rd_s]
  · intro a q1 q2
    rw [rd_o (by omega)]
  · intro l hl
    omega
  · rw [rd_2]
  · intro q w2 hj
    obtain ⟨j1, j2, j3, j4, j5, j6⟩ := hj
    have rm2 : RM w2 n m K A F M E := ⟨j2, j3, fun l hl => by rw [j4 66 (by omega) (by omega), j4 67 (by omega) (by omega), j4 68 (by omega) (by omega), j4 71 (by omega) (by omega)]; exact r3 l hl, j5⟩
    show Ev (f_M_would_67 (q + 1) w2 (nI s) (nI m) (nI i) (nI m)) _
    rw [f_M_would_67, M_hisOf rm2 ⟨hn, hm, ok.2.2⟩ hi]
    simp (disch := omega) only [k0, k1, k2, k3, k4, k5, k6, k7, k8, k9, k10, k12, k20, k30, k31, k40, k99, k160, ite_self, nI_add, nI_leI, nI_ltI, nI_eq, nI_clamp, nI_sub', nI_mul, vpb_n, eq_self, implies_true, grd_t, grd_i, if_pos, if_neg, bI_k, bV_k, bx0, bx1, mh0, mh1, rd_s, rd_o, rd_j, rd_2k, rdL_1k, ↓reduceIte, Bool.false_eq_true, Bool.true_eq_false, Nat.add_eq, Nat.zero_add, Nat.add_zero, not_true_eq_false, not_false_eq_true]
    rw [M_senseOf rm2 hm]
    simp (disch := omega) only [k0, k1, k2, k3, k4, k5, k6, k7, k8, k9, k10, k12, k20, k30, k31, k40, k99, k160, ite_self, nI_add, nI_leI, nI_ltI, nI_eq, nI_clamp, nI_sub', nI_mul, vpb_n, eq_self, implies_true, grd_t, grd_i, if_pos, if_neg, bI_k, bV_k, bx0, bx1, mh0, mh1, rd_s, rd_o, rd_j, rd_2k, rdL_1k, ↓reduceIte, Bool.false_eq_true, Bool.true_eq_false, Nat.add_eq, Nat.zero_add, Nat.add_zero, not_true_eq_false, not_false_eq_true]
    refine Ev.bV (M_again (a1 := 76) (by omega) (by omega)) (fun w3 h3 => ?_)
    exact Ev.i ⟨rfl, (j1.ag h3).1⟩
  · intro q w2 p _ hp hinv kk
    obtain ⟨j1, j2, j3, j4, j5, j6⟩ := hinv
    show Ev (f_M_would_67 (q + 1) w2 (nI s) (nI m) (nI i) (nI p)) _
    rw [f_M_would_67, told_e hs (by omega), show (w2.2.1 65 (160 * s + p)).toInt32 = E p by rw [j6, h1.2.1]; exact hE p hp]
    simp (disch := omega) only [k0, k1, k2, k3, k4, k5, k6, k7, k8, k9, k10, k12, k20, k30, k31, k40, k99, k160, ite_self, nI_add, nI_leI, nI_ltI, nI_eq, nI_clamp, nI_sub', nI_mul, vpb_n, eq_self, implies_true, grd_t, grd_i, if_pos, if_neg, bI_k, bV_k, bx0, bx1, mh0, mh1, rd_s, rd_o, rd_j, rd_2k, rdL_1k, ↓reduceIte, Bool.false_eq_true, Bool.true_eq_false, Nat.add_eq, Nat.zero_add, Nat.add_zero, not_true_eq_false, not_false_eq_true]
    refine kk _ ⟨j1.set (.inr (.inl (by omega))), ?_, ?_, ?_, ?_, ?_⟩
    · rw [rd_o (by omega)]
      exact j2
    · rw [rd_o (by omega)]
      exact j3
    · intro a q1 q2
      rw [rd_o (by omega)]
      exact j4 a q1 q2
    · intro l hl
      by_cases q : l = p
      · subst q
        rw [rd_s]
      · rw [rd_j q]
        exact j5 l (by omega)
    · rw [rd_2]
      exact j6
theorem sim_would (x1 x2 x3 : Int32) : SIM (fun w => f_X_would w x1 x2 x3) (fun w => f_M_would w x1 x2 x3) := by
  intro sc N w h
  have h0 := h
  obtain ⟨⟨n, L, K, A, F, M, S, g1, g2⟩, g3, g4, g5, g6⟩ := h0
  have hn := g1.2.2.1.1
  have ok := g1.2.2.1
  obtain ⟨gx, gm⟩ := row_guard hn g2 x1
  have gxx : (v_X_rowRefusal w x1 = nI 0 → nI 0 ≤ x2 → vpb x1 8 = true) := fun q _ => gx q
  have gmm : (nI 0 ≤ v_M_noRow w x1 → nI 0 ≤ x2 → vpb x1 8 = true) := fun q _ => gm q
  have rf : ∀ c, 1 ≤ c → c ≤ 7 → (c = 1 ∧ Bad x3 n) ∨ ((∃ i, i < n ∧ x3 = nI i) ∧ v_M_noSaying w x1 x2 = -nI c) → EI (f_M_would (u_X_refuse w (-nI c)) x1 x2 x3) (fun v' w2 => v' = -nI c - nI 10 ∧ Inv sc N w2) := by
    intro c h1 h2 e
    unfold f_M_would
    have er : (u_X_refuse w (-nI c)).1 62 3 = nI n := by rw [xr_o (by omega), g1.2.1.1]
    rcases e with ⟨rfl, hb⟩ | ⟨⟨i, hi, rfl⟩, e⟩
    · rw [mman_b (n := n) er (by omega) hb]
      simp (disch := omega) only [k0, k1, k2, k3, k4, k5, k6, k7, k8, k9, k10, k12, k20, k30, k31, k40, k99, k160, ite_self, nI_add, nI_leI, nI_ltI, nI_eq, nI_clamp, nI_sub', nI_mul, vpb_n, eq_self, implies_true, grd_t, grd_i, if_pos, if_neg, bI_k, bV_k, bx0, bx1, mh0, mh1, rd_s, rd_o, rd_j, rd_2k, rdL_1k, ↓reduceIte, Bool.false_eq_true, Bool.true_eq_false, Nat.add_eq, Nat.zero_add, Nat.add_zero, not_true_eq_false, not_false_eq_true, u_no10, v_no10]
      exact Ev.i ⟨rfl, inv_ref h (by omega) (by omega)⟩
    · have e1 := noRow_c (w := w) (w' := u_X_refuse w (-nI c)) (xr_o (by omega)) x1
      have e2 := noSay_c (w := w) (w' := u_X_refuse w (-nI c)) (xr_o (by omega)) (xr_o (by omega)) x1 x2
      rw [e] at e2
      rw [mman_g (n := n) er (by omega) hi]
      simp (disch := omega) only [k0, k1, k2, k3, k4, k5, k6, k7, k8, k9, k10, k12, k20, k30, k31, k40, k99, k160, ite_self, nI_add, nI_leI, nI_ltI, nI_eq, nI_clamp, nI_sub', nI_mul, vpb_n, eq_self, implies_true, grd_t, grd_i, if_pos, if_neg, bI_k, bV_k, bx0, bx1, mh0, mh1, rd_s, rd_o, rd_j, rd_2k, rdL_1k, ↓reduceIte, Bool.false_eq_true, Bool.true_eq_false, Nat.add_eq, Nat.zero_add, Nat.add_zero, not_true_eq_false, not_false_eq_true]
      refine Ev.grd (by rw [e1]; exact gmm) ?_
      simp (disch := omega) only [k0, k1, k2, k3, k4, k5, k6, k7, k8, k9, k10, k12, k20, k30, k31, k40, k99, k160, ite_self, nI_add, nI_leI, nI_ltI, nI_eq, nI_clamp, nI_sub', nI_mul, vpb_n, eq_self, implies_true, grd_t, grd_i, if_pos, if_neg, bI_k, bV_k, bx0, bx1, mh0, mh1, rd_s, rd_o, rd_j, rd_2k, rdL_1k, ↓reduceIte, Bool.false_eq_true, Bool.true_eq_false, Nat.add_eq, Nat.zero_add, Nat.add_zero, not_true_eq_false, not_false_eq_true, e2, (neg_ne0 h1 h2).2, u_no10, v_no10]
      exact Ev.i ⟨rfl, inv_ref h h1 h2⟩
  show EI (f_X_would w x1 x2 x3) _
  unfold f_X_would
  rcases tri x3 n (by omega) with hb3 | ⟨i, hi, rfl⟩
  · rw [man_b g1.1.1 hb3]
    rcases tri x1 8 (by omega) with hb | ⟨s, hs, rfl⟩
    · rw [isSh_b hb]
      simp (disch := omega) only [k0, k1, k2, k3, k4, k5, k6, k7, k8, k9, k10, k12, k20, k30, k31, k40, k99, k160, ite_self, nI_add, nI_leI, nI_ltI, nI_eq, nI_clamp, nI_sub', nI_mul, vpb_n, eq_self, implies_true, grd_t, grd_i, if_pos, if_neg, bI_k, bV_k, bx0, bx1, mh0, mh1, rd_s, rd_o, rd_j, rd_2k, rdL_1k, ↓reduceIte, Bool.false_eq_true, Bool.true_eq_false, Nat.add_eq, Nat.zero_add, Nat.add_zero, not_true_eq_false, not_false_eq_true, u_refF, v_refF]
      exact Ev.i (rf 1 (by omega) (by omega) (.inl ⟨rfl, hb3⟩))
    · rw [isSh_g hs]
      simp (disch := omega) only [k0, k1, k2, k3, k4, k5, k6, k7, k8, k9, k10, k12, k20, k30, k31, k40, k99, k160, ite_self, nI_add, nI_leI, nI_ltI, nI_eq, nI_clamp, nI_sub', nI_mul, vpb_n, eq_self, implies_true, grd_t, grd_i, if_pos, if_neg, bI_k, bV_k, bx0, bx1, mh0, mh1, rd_s, rd_o, rd_j, rd_2k, rdL_1k, ↓reduceIte, Bool.false_eq_true, Bool.true_eq_false, Nat.add_eq, Nat.zero_add, Nat.add_zero, not_true_eq_false, not_false_eq_true, u_refF, v_refF]
      exact Ev.i (rf 1 (by omega) (by omega) (.inl ⟨rfl, hb3⟩))
  rw [man_g g1.1.1 hi (by omega)]
  rcases tri x1 8 (by omega) with hb | ⟨s', hs', rfl⟩
  · rw [isSh_b hb]
    simp (disch := omega) only [k0, k1, k2, k3, k4, k5, k6, k7, k8, k9, k10, k12, k20, k30, k31, k40, k99, k160, ite_self, nI_add, nI_leI, nI_ltI, nI_eq, nI_clamp, nI_sub', nI_mul, vpb_n, eq_self, implies_true, grd_t, grd_i, if_pos, if_neg, bI_k, bV_k, bx0, bx1, mh0, mh1, rd_s, rd_o, rd_j, rd_2k, rdL_1k, ↓reduceIte, Bool.false_eq_true, Bool.true_eq_false, Nat.add_eq, Nat.zero_add, Nat.add_zero, not_true_eq_false, not_false_eq_true, u_refF, v_refF]
    refine Ev.i (rf 1 (by omega) (by omega) (.inr ⟨⟨i, hi, rfl⟩, ?_⟩))
    rcases tell_cases hn g2 x1 x2 with ⟨c, h1, h2, h3, h4⟩ | ⟨s, t, len, m, hs, rfl, _⟩
    · unfold v_M_noSaying v_M_noRow
      rw [w7_b hb]
      have n1 := (neg_lt0 (c := 1) (by omega) (by omega)).2.1
      simp (disch := omega) only [k0, k1, k2, k3, k4, k5, k6, k7, k8, k9, k10, k12, k20, k30, k31, k40, k99, k160, ite_self, nI_add, nI_leI, nI_ltI, nI_eq, nI_clamp, nI_sub', nI_mul, vpb_n, eq_self, implies_true, grd_t, grd_i, if_pos, if_neg, bI_k, bV_k, bx0, bx1, mh0, mh1, rd_s, rd_o, rd_j, rd_2k, rdL_1k, ↓reduceIte, Bool.false_eq_true, Bool.true_eq_false, Nat.add_eq, Nat.zero_add, Nat.add_zero, not_true_eq_false, not_false_eq_true, n1]
    · exfalso
      rcases hb with q | q
      · exact nI_pos (by omega) q
      · exact nI_ge hs (by omega) q
  rw [isSh_g hs']
  simp (disch := omega) only [k0, k1, k2, k3, k4, k5, k6, k7, k8, k9, k10, k12, k20, k30, k31, k40, k99, k160, ite_self, nI_add, nI_leI, nI_ltI, nI_eq, nI_clamp, nI_sub', nI_mul, vpb_n, eq_self, implies_true, grd_t, grd_i, if_pos, if_neg, bI_k, bV_k, bx0, bx1, mh0, mh1, rd_s, rd_o, rd_j, rd_2k, rdL_1k, ↓reduceIte, Bool.false_eq_true, Bool.true_eq_false, Nat.add_eq, Nat.zero_add, Nat.add_zero, not_true_eq_false, not_false_eq_true]
  rcases tell_cases hn g2 (nI s') x2 with ⟨c, h1, h2, h3, h4⟩ | ⟨s, t, len, m, hs, hss, hr, hm, rfl, h3, h4⟩
  · simp (disch := omega) only [k0, k1, k2, k3, k4, k5, k6, k7, k8, k9, k10, k12, k20, k30, k31, k40, k99, k160, ite_self, nI_add, nI_leI, nI_ltI, nI_eq, nI_clamp, nI_sub', nI_mul, vpb_n, eq_self, implies_true, grd_t, grd_i, if_pos, if_neg, bI_k, bV_k, bx0, bx1, mh0, mh1, rd_s, rd_o, rd_j, rd_2k, rdL_1k, ↓reduceIte, Bool.false_eq_true, Bool.true_eq_false, Nat.add_eq, Nat.zero_add, Nat.add_zero, not_true_eq_false, not_false_eq_true, h3, (neg_ne0 h1 (by omega : c ≤ 7)).1, u_refF, v_refF]
    exact Ev.i (rf c h1 (by omega) (.inr ⟨⟨i, hi, rfl⟩, h4⟩))
  have : s' = s := (nI_eq (by omega) (by omega)).mp hss
  subst this
  obtain ⟨r1, r2, r3, r4, r5, r6, r7⟩ := hr
  by_cases q : m ≤ 30
  · rw [if_pos q] at h4
    simp (disch := omega) only [k0, k1, k2, k3, k4, k5, k6, k7, k8, k9, k10, k12, k20, k30, k31, k40, k99, k160, ite_self, nI_add, nI_leI, nI_ltI, nI_eq, nI_clamp, nI_sub', nI_mul, vpb_n, eq_self, implies_true, grd_t, grd_i, if_pos, if_neg, bI_k, bV_k, bx0, bx1, mh0, mh1, rd_s, rd_o, rd_j, rd_2k, rdL_1k, ↓reduceIte, Bool.false_eq_true, Bool.true_eq_false, Nat.add_eq, Nat.zero_add, Nat.add_zero, not_true_eq_false, not_false_eq_true, h3]
    rw [X_fw (E := fun i => (w.2.1 (35 + 2 * s' + 1) i).toInt32) r5 (by omega) (fun i _ => rfl) hm]
    simp (disch := omega) only [k0, k1, k2, k3, k4, k5, k6, k7, k8, k9, k10, k12, k20, k30, k31, k40, k99, k160, ite_self, nI_add, nI_leI, nI_ltI, nI_eq, nI_clamp, nI_sub', nI_mul, vpb_n, eq_self, implies_true, grd_t, grd_i, if_pos, if_neg, bI_k, bV_k, bx0, bx1, mh0, mh1, rd_s, rd_o, rd_j, rd_2k, rdL_1k, ↓reduceIte, Bool.false_eq_true, Bool.true_eq_false, Nat.add_eq, Nat.zero_add, Nat.add_zero, not_true_eq_false, not_false_eq_true]
    generalize hE : (fun i => (w.2.1 (35 + 2 * s' + 1) i).toInt32) = E
    have hE1 : ∀ i, i < len → (w.2.1 (35 + 2 * s' + 1) i).toInt32 = E i := fun i _ => by rw [← hE]
    by_cases hf : fwV E m 0 = -nI 1
    · obtain ⟨a1, a2, a3, a4⟩ := g1.1.2.2.1 i hi
      obtain ⟨b1, b2, b3⟩ := ok.2.2 i hi
      simp (disch := omega) only [k0, k1, k2, k3, k4, k5, k6, k7, k8, k9, k10, k12, k20, k30, k31, k40, k99, k160, ite_self, nI_add, nI_leI, nI_ltI, nI_eq, nI_clamp, nI_sub', nI_mul, vpb_n, eq_self, implies_true, grd_t, grd_i, if_pos, if_neg, bI_k, bV_k, bx0, bx1, mh0, mh1, rd_s, rd_o, rd_j, rd_2k, rdL_1k, ↓reduceIte, Bool.false_eq_true, Bool.true_eq_false, Nat.add_eq, Nat.zero_add, Nat.add_zero, not_true_eq_false, not_false_eq_true, hf]
      rw [X_placesOf w a1 a2 a3 b1 (by omega) b3 (by omega)]
      simp (disch := omega) only [k0, k1, k2, k3, k4, k5, k6, k7, k8, k9, k10, k12, k20, k30, k31, k40, k99, k160, ite_self, nI_add, nI_leI, nI_ltI, nI_eq, nI_clamp, nI_sub', nI_mul, vpb_n, eq_self, implies_true, grd_t, grd_i, if_pos, if_neg, bI_k, bV_k, bx0, bx1, mh0, mh1, rd_s, rd_o, rd_j, rd_2k, rdL_1k, ↓reduceIte, Bool.false_eq_true, Bool.true_eq_false, Nat.add_eq, Nat.zero_add, Nat.add_zero, not_true_eq_false, not_false_eq_true]
      refine Ev.bI (X_told (E := E) hs' q hm r2 r5 hE1) (fun v w1 h1 => ?_)
      obtain ⟨rfl, f1⟩ := h1
      have gb := g1.fq f1.q
      have hE2 : ∀ i, i < m → (w1.2.1 65 (160 * s' + i)).toInt32 = E i := fun i hi => by rw [f1.2, ← r7 i (by omega)]; exact hE1 i (by omega)
      refine Ev.i ?_
      show EI (f_M_would w1 (nI s') (nI m) (nI i)) _
      unfold f_M_would
      rw [mman_g (n := n) gb.2.1.1 (by omega) hi]
      simp (disch := omega) only [k0, k1, k2, k3, k4, k5, k6, k7, k8, k9, k10, k12, k20, k30, k31, k40, k99, k160, ite_self, nI_add, nI_leI, nI_ltI, nI_eq, nI_clamp, nI_sub', nI_mul, vpb_n, eq_self, implies_true, grd_t, grd_i, if_pos, if_neg, bI_k, bV_k, bx0, bx1, mh0, mh1, rd_s, rd_o, rd_j, rd_2k, rdL_1k, ↓reduceIte, Bool.false_eq_true, Bool.true_eq_false, Nat.add_eq, Nat.zero_add, Nat.add_zero, not_true_eq_false, not_false_eq_true]
      have e2 := noSay_c (w := w) (w' := w1) (f1.1 63 (by omega) (by omega)) (f1.1 64 (by omega) (by omega)) (nI s') (nI m)
      rw [h4] at e2
      simp (disch := omega) only [k0, k1, k2, k3, k4, k5, k6, k7, k8, k9, k10, k12, k20, k30, k31, k40, k99, k160, ite_self, nI_add, nI_leI, nI_ltI, nI_eq, nI_clamp, nI_sub', nI_mul, vpb_n, eq_self, implies_true, grd_t, grd_i, if_pos, if_neg, bI_k, bV_k, bx0, bx1, mh0, mh1, rd_s, rd_o, rd_j, rd_2k, rdL_1k, ↓reduceIte, Bool.false_eq_true, Bool.true_eq_false, Nat.add_eq, Nat.zero_add, Nat.add_zero, not_true_eq_false, not_false_eq_true, e2]
      rw [M_fw (E := E) hs' hE2 (by omega)]
      simp (disch := omega) only [k0, k1, k2, k3, k4, k5, k6, k7, k8, k9, k10, k12, k20, k30, k31, k40, k99, k160, ite_self, nI_add, nI_leI, nI_ltI, nI_eq, nI_clamp, nI_sub', nI_mul, vpb_n, eq_self, implies_true, grd_t, grd_i, if_pos, if_neg, bI_k, bV_k, bx0, bx1, mh0, mh1, rd_s, rd_o, rd_j, rd_2k, rdL_1k, ↓reduceIte, Bool.false_eq_true, Bool.true_eq_false, Nat.add_eq, Nat.zero_add, Nat.add_zero, not_true_eq_false, not_false_eq_true, hf]
      refine EI.mono (M_would gb.2.1 ok hs' q hi hE2) (fun v w2 h2 => ?_)
      obtain ⟨rfl, f2⟩ := h2
      exact ⟨rfl, h.fq (f1.q.tr f2)⟩
    · simp (disch := omega) only [k0, k1, k2, k3, k4, k5, k6, k7, k8, k9, k10, k12, k20, k30, k31, k40, k99, k160, ite_self, nI_add, nI_leI, nI_ltI, nI_eq, nI_clamp, nI_sub', nI_mul, vpb_n, eq_self, implies_true, grd_t, grd_i, if_pos, if_neg, bI_k, bV_k, bx0, bx1, mh0, mh1, rd_s, rd_o, rd_j, rd_2k, rdL_1k, ↓reduceIte, Bool.false_eq_true, Bool.true_eq_false, Nat.add_eq, Nat.zero_add, Nat.add_zero, not_true_eq_false, not_false_eq_true, hf, u_refF, v_refF]
      refine Ev.i ?_
      show EI (f_M_would (u_X_refuse w (-nI 6)) (nI s') (nI m) (nI i)) _
      unfold f_M_would
      have e1 := noRow_c (w := w) (w' := u_X_refuse w (-nI 6)) (xr_o (by omega)) (nI s')
      have e2 := noSay_c (w := w) (w' := u_X_refuse w (-nI 6)) (xr_o (by omega)) (xr_o (by omega)) (nI s') (nI m)
      rw [h4] at e2
      rw [mman_g (n := n) (by rw [xr_o (by omega), g1.2.1.1]) (by omega) hi]
      simp (disch := omega) only [k0, k1, k2, k3, k4, k5, k6, k7, k8, k9, k10, k12, k20, k30, k31, k40, k99, k160, ite_self, nI_add, nI_leI, nI_ltI, nI_eq, nI_clamp, nI_sub', nI_mul, vpb_n, eq_self, implies_true, grd_t, grd_i, if_pos, if_neg, bI_k, bV_k, bx0, bx1, mh0, mh1, rd_s, rd_o, rd_j, rd_2k, rdL_1k, ↓reduceIte, Bool.false_eq_true, Bool.true_eq_false, Nat.add_eq, Nat.zero_add, Nat.add_zero, not_true_eq_false, not_false_eq_true]
      simp (disch := omega) only [k0, k1, k2, k3, k4, k5, k6, k7, k8, k9, k10, k12, k20, k30, k31, k40, k99, k160, ite_self, nI_add, nI_leI, nI_ltI, nI_eq, nI_clamp, nI_sub', nI_mul, vpb_n, eq_self, implies_true, grd_t, grd_i, if_pos, if_neg, bI_k, bV_k, bx0, bx1, mh0, mh1, rd_s, rd_o, rd_j, rd_2k, rdL_1k, ↓reduceIte, Bool.false_eq_true, Bool.true_eq_false, Nat.add_eq, Nat.zero_add, Nat.add_zero, not_true_eq_false, not_false_eq_true, e2]
      rw [M_fw (E := E) hs' (fun i hi => by rw [xr_2, ← r7 i (by omega)]; exact hE1 i (by omega)) (by omega)]
      simp (disch := omega) only [k0, k1, k2, k3, k4, k5, k6, k7, k8, k9, k10, k12, k20, k30, k31, k40, k99, k160, ite_self, nI_add, nI_leI, nI_ltI, nI_eq, nI_clamp, nI_sub', nI_mul, vpb_n, eq_self, implies_true, grd_t, grd_i, if_pos, if_neg, bI_k, bV_k, bx0, bx1, mh0, mh1, rd_s, rd_o, rd_j, rd_2k, rdL_1k, ↓reduceIte, Bool.false_eq_true, Bool.true_eq_false, Nat.add_eq, Nat.zero_add, Nat.add_zero, not_true_eq_false, not_false_eq_true, hf, u_no10, v_no10]
      exact Ev.i ⟨rfl, inv_ref h (by omega) (by omega)⟩
  · rw [if_neg q] at h4
    simp (disch := omega) only [k0, k1, k2, k3, k4, k5, k6, k7, k8, k9, k10, k12, k20, k30, k31, k40, k99, k160, ite_self, nI_add, nI_leI, nI_ltI, nI_eq, nI_clamp, nI_sub', nI_mul, vpb_n, eq_self, implies_true, grd_t, grd_i, if_pos, if_neg, bI_k, bV_k, bx0, bx1, mh0, mh1, rd_s, rd_o, rd_j, rd_2k, rdL_1k, ↓reduceIte, Bool.false_eq_true, Bool.true_eq_false, Nat.add_eq, Nat.zero_add, Nat.add_zero, not_true_eq_false, not_false_eq_true, h3, u_refF, v_refF]
    exact Ev.i (rf 6 (by omega) (by omega) (.inr ⟨⟨i, hi, rfl⟩, h4⟩))
theorem sim_trace (x1 : Int32) : SIM (fun w => f_X_trace w x1) (fun w => f_M_trace w x1) := by
  intro sc N w h
  have h0 := h
  obtain ⟨g1, g3, g4, g5, g6⟩ := h0
  obtain ⟨t, t0, t1, t2, t3⟩ := g4
  show EI (f_X_trace w x1) _
  unfold f_X_trace v_Mv_traced
  by_cases c1 : x1 < nI 0
  · simp (disch := omega) only [k0, k1, k2, k3, k4, k5, k6, k7, k8, k9, k10, k12, k20, k30, k31, k40, k99, k160, ite_self, nI_add, nI_leI, nI_ltI, nI_eq, nI_clamp, nI_sub', nI_mul, vpb_n, eq_self, implies_true, grd_t, grd_i, if_pos, if_neg, bI_k, bV_k, bx0, bx1, mh0, mh1, rd_s, rd_o, rd_j, rd_2k, rdL_1k, ↓reduceIte, Bool.false_eq_true, Bool.true_eq_false, Nat.add_eq, Nat.zero_add, Nat.add_zero, not_true_eq_false, not_false_eq_true, c1]
    refine Ev.i ?_
    show EI (f_M_trace w x1) _
    unfold f_M_trace
    simp (disch := omega) only [k0, k1, k2, k3, k4, k5, k6, k7, k8, k9, k10, k12, k20, k30, k31, k40, k99, k160, ite_self, nI_add, nI_leI, nI_ltI, nI_eq, nI_clamp, nI_sub', nI_mul, vpb_n, eq_self, implies_true, grd_t, grd_i, if_pos, if_neg, bI_k, bV_k, bx0, bx1, mh0, mh1, rd_s, rd_o, rd_j, rd_2k, rdL_1k, ↓reduceIte, Bool.false_eq_true, Bool.true_eq_false, Nat.add_eq, Nat.zero_add, Nat.add_zero, not_true_eq_false, not_false_eq_true, c1]
    exact Ev.i ⟨rfl, h⟩
  obtain ⟨j, hj, rfl⟩ := nI_of c1
  by_cases c2 : t ≤ j
  · simp (disch := omega) only [k0, k1, k2, k3, k4, k5, k6, k7, k8, k9, k10, k12, k20, k30, k31, k40, k99, k160, ite_self, nI_add, nI_leI, nI_ltI, nI_eq, nI_clamp, nI_sub', nI_mul, vpb_n, eq_self, implies_true, grd_t, grd_i, if_pos, if_neg, bI_k, bV_k, bx0, bx1, mh0, mh1, rd_s, rd_o, rd_j, rd_2k, rdL_1k, ↓reduceIte, Bool.false_eq_true, Bool.true_eq_false, Nat.add_eq, Nat.zero_add, Nat.add_zero, not_true_eq_false, not_false_eq_true, c1, t1]
    refine Ev.i ?_
    show EI (f_M_trace w (nI j)) _
    unfold f_M_trace
    simp (disch := omega) only [k0, k1, k2, k3, k4, k5, k6, k7, k8, k9, k10, k12, k20, k30, k31, k40, k99, k160, ite_self, nI_add, nI_leI, nI_ltI, nI_eq, nI_clamp, nI_sub', nI_mul, vpb_n, eq_self, implies_true, grd_t, grd_i, if_pos, if_neg, bI_k, bV_k, bx0, bx1, mh0, mh1, rd_s, rd_o, rd_j, rd_2k, rdL_1k, ↓reduceIte, Bool.false_eq_true, Bool.true_eq_false, Nat.add_eq, Nat.zero_add, Nat.add_zero, not_true_eq_false, not_false_eq_true, c1, t2]
    exact Ev.i ⟨rfl, h⟩
  by_cases c3 : 20 ≤ j
  · simp (disch := omega) only [k0, k1, k2, k3, k4, k5, k6, k7, k8, k9, k10, k12, k20, k30, k31, k40, k99, k160, ite_self, nI_add, nI_leI, nI_ltI, nI_eq, nI_clamp, nI_sub', nI_mul, vpb_n, eq_self, implies_true, grd_t, grd_i, if_pos, if_neg, bI_k, bV_k, bx0, bx1, mh0, mh1, rd_s, rd_o, rd_j, rd_2k, rdL_1k, ↓reduceIte, Bool.false_eq_true, Bool.true_eq_false, Nat.add_eq, Nat.zero_add, Nat.add_zero, not_true_eq_false, not_false_eq_true, c1, t1]
    refine Ev.i ?_
    show EI (f_M_trace w (nI j)) _
    unfold f_M_trace
    simp (disch := omega) only [k0, k1, k2, k3, k4, k5, k6, k7, k8, k9, k10, k12, k20, k30, k31, k40, k99, k160, ite_self, nI_add, nI_leI, nI_ltI, nI_eq, nI_clamp, nI_sub', nI_mul, vpb_n, eq_self, implies_true, grd_t, grd_i, if_pos, if_neg, bI_k, bV_k, bx0, bx1, mh0, mh1, rd_s, rd_o, rd_j, rd_2k, rdL_1k, ↓reduceIte, Bool.false_eq_true, Bool.true_eq_false, Nat.add_eq, Nat.zero_add, Nat.add_zero, not_true_eq_false, not_false_eq_true, c1, t2]
    exact Ev.i ⟨rfl, h⟩
  · simp (disch := omega) only [k0, k1, k2, k3, k4, k5, k6, k7, k8, k9, k10, k12, k20, k30, k31, k40, k99, k160, ite_self, nI_add, nI_leI, nI_ltI, nI_eq, nI_clamp, nI_sub', nI_mul, vpb_n, eq_self, implies_true, grd_t, grd_i, if_pos, if_neg, bI_k, bV_k, bx0, bx1, mh0, mh1, rd_s, rd_o, rd_j, rd_2k, rdL_1k, ↓reduceIte, Bool.false_eq_true, Bool.true_eq_false, Nat.add_eq, Nat.zero_add, Nat.add_zero, not_true_eq_false, not_false_eq_true, c1, t1]
    refine Ev.i ?_
    show EI (f_M_trace w (nI j)) _
    unfold f_M_trace
    simp (disch := omega) only [k0, k1, k2, k3, k4, k5, k6, k7, k8, k9, k10, k12, k20, k30, k31, k40, k99, k160, ite_self, nI_add, nI_leI, nI_ltI, nI_eq, nI_clamp, nI_sub', nI_mul, vpb_n, eq_self, implies_true, grd_t, grd_i, if_pos, if_neg, bI_k, bV_k, bx0, bx1, mh0, mh1, rd_s, rd_o, rd_j, rd_2k, rdL_1k, ↓reduceIte, Bool.false_eq_true, Bool.true_eq_false, Nat.add_eq, Nat.zero_add, Nat.add_zero, not_true_eq_false, not_false_eq_true, c1, t2]
    exact Ev.i ⟨(t3 j (by omega) (by omega)).symm, h⟩
