/-! calls: questions -/
theorem sim_hears (x1 x2 : Int32) : SIM (fun w => f_X_hears w x1 x2) (fun w => f_M_hears w x1 x2) := by
  intro sc N w h
  have h0 := h
  obtain ⟨⟨n, L, K, A, F, M, S, g1, g2⟩, g3, g4, g5, g6⟩ := h0
  obtain ⟨rx, rm, ok, om, bl, sd⟩ := g1
  have hn := ok.1
  have hL := ok.2.1
  show EI (f_X_hears w x1 x2) _
  unfold f_X_hears
  rcases tri x1 n (by omega) with hb | ⟨i, hi, rfl⟩
  · rw [man_b rx.1 hb]
    simp (disch := omega) only [l0, l1, l2, l3, l4, l5, l6, l7, l8, l9, l10, l12, l20, l30, l31, l40, l99, l160, ite_self, nI_add, nI_leI, nI_ltI, nI_eq, nI_clamp, nI_sub', nI_mul, vpb_n, eq_self, implies_true, grd_t, grd_i, if_pos, if_neg, bI_i, bV_n, bx0, bx1, mh0, mh1, rd_s, rd_o, rd_j, rd_2, rdL_1, ↓reduceIte, Bool.false_eq_true, Bool.true_eq_false, Nat.add_eq, Nat.zero_add, Nat.add_zero, not_true_eq_false, not_false_eq_true]
    refine Ev.i ?_
    show EI (f_M_hears (u_X_refuse w (-nI 1)) x1 x2) _
    unfold f_M_hears
    rw [mman_b (n := n) (by rw [xr_o (by omega), rm.1]) (by omega) hb]
    simp (disch := omega) only [l0, l1, l2, l3, l4, l5, l6, l7, l8, l9, l10, l12, l20, l30, l31, l40, l99, l160, ite_self, nI_add, nI_leI, nI_ltI, nI_eq, nI_clamp, nI_sub', nI_mul, vpb_n, eq_self, implies_true, grd_t, grd_i, if_pos, if_neg, bI_i, bV_n, bx0, bx1, mh0, mh1, rd_s, rd_o, rd_j, rd_2, rdL_1, ↓reduceIte, Bool.false_eq_true, Bool.true_eq_false, Nat.add_eq, Nat.zero_add, Nat.add_zero, not_true_eq_false, not_false_eq_true]
    exact Ev.i ⟨rfl, inv_ref h (by omega) (by omega)⟩
  rw [man_g rx.1 hi (by omega)]
  rcases tri x2 L (by omega) with hb | ⟨p, hp, rfl⟩
  · rw [plc_b rx.2.1 hb]
    simp (disch := omega) only [l0, l1, l2, l3, l4, l5, l6, l7, l8, l9, l10, l12, l20, l30, l31, l40, l99, l160, ite_self, nI_add, nI_leI, nI_ltI, nI_eq, nI_clamp, nI_sub', nI_mul, vpb_n, eq_self, implies_true, grd_t, grd_i, if_pos, if_neg, bI_i, bV_n, bx0, bx1, mh0, mh1, rd_s, rd_o, rd_j, rd_2, rdL_1, ↓reduceIte, Bool.false_eq_true, Bool.true_eq_false, Nat.add_eq, Nat.zero_add, Nat.add_zero, not_true_eq_false, not_false_eq_true]
    refine Ev.i ?_
    show EI (f_M_hears (u_X_refuse w (-nI 5)) (nI i) x2) _
    unfold f_M_hears
    rw [mman_g (n := n) (by rw [xr_o (by omega), rm.1]) (by omega) hi, wi_b (n := L) (by omega) (by rw [xr_o (by omega), rm.2.1]; rfl) hb]
    simp (disch := omega) only [l0, l1, l2, l3, l4, l5, l6, l7, l8, l9, l10, l12, l20, l30, l31, l40, l99, l160, ite_self, nI_add, nI_leI, nI_ltI, nI_eq, nI_clamp, nI_sub', nI_mul, vpb_n, eq_self, implies_true, grd_t, grd_i, if_pos, if_neg, bI_i, bV_n, bx0, bx1, mh0, mh1, rd_s, rd_o, rd_j, rd_2, rdL_1, ↓reduceIte, Bool.false_eq_true, Bool.true_eq_false, Nat.add_eq, Nat.zero_add, Nat.add_zero, not_true_eq_false, not_false_eq_true]
    exact Ev.i ⟨rfl, inv_ref h (by omega) (by omega)⟩
  · rw [plc_g rx.2.1 hp (by omega), X_his rx ok hi]
    simp (disch := omega) only [l0, l1, l2, l3, l4, l5, l6, l7, l8, l9, l10, l12, l20, l30, l31, l40, l99, l160, ite_self, nI_add, nI_leI, nI_ltI, nI_eq, nI_clamp, nI_sub', nI_mul, vpb_n, eq_self, implies_true, grd_t, grd_i, if_pos, if_neg, bI_i, bV_n, bx0, bx1, mh0, mh1, rd_s, rd_o, rd_j, rd_2, rdL_1, ↓reduceIte, Bool.false_eq_true, Bool.true_eq_false, Nat.add_eq, Nat.zero_add, Nat.add_zero, not_true_eq_false, not_false_eq_true]
    refine Ev.i ?_
    show EI (f_M_hears w (nI i) (nI p)) _
    unfold f_M_hears
    rw [mman_g (n := n) rm.1 (by omega) hi, wi_g (n := L) (by omega) (by rw [rm.2.1]; rfl) hp, M_hisOf rm ok hi]
    simp (disch := omega) only [l0, l1, l2, l3, l4, l5, l6, l7, l8, l9, l10, l12, l20, l30, l31, l40, l99, l160, ite_self, nI_add, nI_leI, nI_ltI, nI_eq, nI_clamp, nI_sub', nI_mul, vpb_n, eq_self, implies_true, grd_t, grd_i, if_pos, if_neg, bI_i, bV_n, bx0, bx1, mh0, mh1, rd_s, rd_o, rd_j, rd_2, rdL_1, ↓reduceIte, Bool.false_eq_true, Bool.true_eq_false, Nat.add_eq, Nat.zero_add, Nat.add_zero, not_true_eq_false, not_false_eq_true]
    have e1 := and1 (ush (hs K A F L i) (nI p))
    rw [bt_ush _ (by omega)] at e1
    have e2 : ush (hs K A F L i) (nI p) &&& nI 1 = if bt (hs K A F L i) p = true then nI 1 else nI 0 := e1
    by_cases hb : bt (hs K A F L i) p = true
    · rw [if_neg (by rw [hb]; decide)]
      exact Ev.i ⟨by rw [e2, if_pos hb], h⟩
    · rw [if_pos (by simpa using hb)]
      exact Ev.i ⟨by rw [e2, if_neg hb], h⟩
theorem sim_whole : SIM (fun w => f_X_whole w) (fun w => f_M_whole w) := by
  intro sc N w h
  have h0 := h
  obtain ⟨⟨n, L, K, A, F, M, S, g1, g2⟩, g3, g4, g5, g6⟩ := h0
  obtain ⟨rx, rm, ok, om, bl, sd⟩ := g1
  have hL := ok.2.1
  show EI (f_X_whole w) _
  unfold f_X_whole
  rw [X_wholeSense rx (.inl rfl) hL]
  refine Ev.i ?_
  show EI (f_M_whole w) _
  unfold f_M_whole
  rw [M_wholeOf rm hL]
  exact Ev.i ⟨rfl, h⟩
theorem sim_knownBehind {w : MW} {n L : Nat} {K A F : Nat → Nat} {M S : Nat → Int32} (rx : RX 1 w n L K A F M S) (ok : OK n L K A F) {i r : Nat} (hi : i < n) (hr : r < 10) :
    EI (f_X_knownBehind w (nI i) (nI r)) (fun v w' => v = rideN n M r (hs K A F L) i ∧ FX w w') := by
  have hn := ok.1
  unfold f_X_knownBehind
  refine Ev.bV (X_begin rx (by omega) ok) (fun w1 h1 => ?_)
  refine Ev.bV (X_ride hn (by omega) h1.2) (fun w2 h2 => ?_)
  have e := (h2.2.2 i hi).1
  simp (disch := omega) only [l0, l1, l2, l3, l4, l5, l6, l7, l8, l9, l10, l12, l20, l30, l31, l40, l99, l160, ite_self, nI_add, nI_leI, nI_ltI, nI_eq, nI_clamp, nI_sub', nI_mul, vpb_n, eq_self, implies_true, grd_t, grd_i, if_pos, if_neg, bI_i, bV_n, bx0, bx1, mh0, mh1, rd_s, rd_o, rd_j, rd_2, rdL_1, ↓reduceIte, Bool.false_eq_true, Bool.true_eq_false, Nat.add_eq, Nat.zero_add, Nat.add_zero, not_true_eq_false, not_false_eq_true, e]
  exact Ev.i ⟨rfl, h1.1.tr h2.1⟩
theorem sim_sense (x1 x2 : Int32) : SIM (fun w => f_X_sense w x1 x2) (fun w => f_M_sense w x1 x2) := by
  intro sc N w h
  have h0 := h
  obtain ⟨⟨n, L, K, A, F, M, S, g1, g2⟩, g3, g4, g5, g6⟩ := h0
  have g1' := g1
  obtain ⟨rx, rm, ok, om, bl, sd⟩ := g1
  have hn := ok.1
  have hL := ok.2.1
  show EI (f_X_sense w x1 x2) _
  unfold f_X_sense
  rcases tri x1 n (by omega) with hb | ⟨i, hi, rfl⟩
  · rw [man_b rx.1 hb]
    simp (disch := omega) only [l0, l1, l2, l3, l4, l5, l6, l7, l8, l9, l10, l12, l20, l30, l31, l40, l99, l160, ite_self, nI_add, nI_leI, nI_ltI, nI_eq, nI_clamp, nI_sub', nI_mul, vpb_n, eq_self, implies_true, grd_t, grd_i, if_pos, if_neg, bI_i, bV_n, bx0, bx1, mh0, mh1, rd_s, rd_o, rd_j, rd_2, rdL_1, ↓reduceIte, Bool.false_eq_true, Bool.true_eq_false, Nat.add_eq, Nat.zero_add, Nat.add_zero, not_true_eq_false, not_false_eq_true, u_refF]
    refine Ev.i ?_
    show EI (f_M_sense (u_X_refuse w (-nI 1)) x1 x2) _
    unfold f_M_sense
    rw [mman_b (n := n) (by rw [xr_o (by omega), rm.1]) (by omega) hb]
    simp (disch := omega) only [l0, l1, l2, l3, l4, l5, l6, l7, l8, l9, l10, l12, l20, l30, l31, l40, l99, l160, ite_self, nI_add, nI_leI, nI_ltI, nI_eq, nI_clamp, nI_sub', nI_mul, vpb_n, eq_self, implies_true, grd_t, grd_i, if_pos, if_neg, bI_i, bV_n, bx0, bx1, mh0, mh1, rd_s, rd_o, rd_j, rd_2, rdL_1, ↓reduceIte, Bool.false_eq_true, Bool.true_eq_false, Nat.add_eq, Nat.zero_add, Nat.add_zero, not_true_eq_false, not_false_eq_true, u_no10]
    exact Ev.i ⟨rfl, inv_ref h (by omega) (by omega)⟩
  rw [man_g rx.1 hi (by omega)]
  rcases tri x2 10 (by omega) with hb | ⟨r, hr, rfl⟩
  · rw [isRo_b hb]
    simp (disch := omega) only [l0, l1, l2, l3, l4, l5, l6, l7, l8, l9, l10, l12, l20, l30, l31, l40, l99, l160, ite_self, nI_add, nI_leI, nI_ltI, nI_eq, nI_clamp, nI_sub', nI_mul, vpb_n, eq_self, implies_true, grd_t, grd_i, if_pos, if_neg, bI_i, bV_n, bx0, bx1, mh0, mh1, rd_s, rd_o, rd_j, rd_2, rdL_1, ↓reduceIte, Bool.false_eq_true, Bool.true_eq_false, Nat.add_eq, Nat.zero_add, Nat.add_zero, not_true_eq_false, not_false_eq_true, u_refF]
    refine Ev.i ?_
    show EI (f_M_sense (u_X_refuse w (-nI 6)) (nI i) x2) _
    unfold f_M_sense
    rw [mman_g (n := n) (by rw [xr_o (by omega), rm.1]) (by omega) hi, mro_b hb]
    simp (disch := omega) only [l0, l1, l2, l3, l4, l5, l6, l7, l8, l9, l10, l12, l20, l30, l31, l40, l99, l160, ite_self, nI_add, nI_leI, nI_ltI, nI_eq, nI_clamp, nI_sub', nI_mul, vpb_n, eq_self, implies_true, grd_t, grd_i, if_pos, if_neg, bI_i, bV_n, bx0, bx1, mh0, mh1, rd_s, rd_o, rd_j, rd_2, rdL_1, ↓reduceIte, Bool.false_eq_true, Bool.true_eq_false, Nat.add_eq, Nat.zero_add, Nat.add_zero, not_true_eq_false, not_false_eq_true, u_no10]
    exact Ev.i ⟨rfl, inv_ref h (by omega) (by omega)⟩
  rw [isRo_g hr]
  simp (disch := omega) only [l0, l1, l2, l3, l4, l5, l6, l7, l8, l9, l10, l12, l20, l30, l31, l40, l99, l160, ite_self, nI_add, nI_leI, nI_ltI, nI_eq, nI_clamp, nI_sub', nI_mul, vpb_n, eq_self, implies_true, grd_t, grd_i, if_pos, if_neg, bI_i, bV_n, bx0, bx1, mh0, mh1, rd_s, rd_o, rd_j, rd_2, rdL_1, ↓reduceIte, Bool.false_eq_true, Bool.true_eq_false, Nat.add_eq, Nat.zero_add, Nat.add_zero, not_true_eq_false, not_false_eq_true]
  refine Ev.bI (sim_knownBehind rx ok hi hr) (fun v w1 h1 => ?_)
  obtain ⟨rfl, f1⟩ := h1
  have g := g1'.fq f1.q
  rw [X_senseOf g.1 (.inl rfl) hL]
  refine Ev.i ?_
  show EI (f_M_sense w1 (nI i) (nI r)) _
  unfold f_M_sense
  rw [mman_g (n := n) g.2.1.1 (by omega) hi, mro_g hr]
  simp (disch := omega) only [l0, l1, l2, l3, l4, l5, l6, l7, l8, l9, l10, l12, l20, l30, l31, l40, l99, l160, ite_self, nI_add, nI_leI, nI_ltI, nI_eq, nI_clamp, nI_sub', nI_mul, vpb_n, eq_self, implies_true, grd_t, grd_i, if_pos, if_neg, bI_i, bV_n, bx0, bx1, mh0, mh1, rd_s, rd_o, rd_j, rd_2, rdL_1, ↓reduceIte, Bool.false_eq_true, Bool.true_eq_false, Nat.add_eq, Nat.zero_add, Nat.add_zero, not_true_eq_false, not_false_eq_true]
  refine Ev.bV (M_goOn g.2.1 ok (by omega)) (fun w2 h2 => ?_)
  have e := h2.2 i hi
  simp (disch := omega) only [l0, l1, l2, l3, l4, l5, l6, l7, l8, l9, l10, l12, l20, l30, l31, l40, l99, l160, ite_self, nI_add, nI_leI, nI_ltI, nI_eq, nI_clamp, nI_sub', nI_mul, vpb_n, eq_self, implies_true, grd_t, grd_i, if_pos, if_neg, bI_i, bV_n, bx0, bx1, mh0, mh1, rd_s, rd_o, rd_j, rd_2, rdL_1, ↓reduceIte, Bool.false_eq_true, Bool.true_eq_false, Nat.add_eq, Nat.zero_add, Nat.add_zero, not_true_eq_false, not_false_eq_true, e]
  rw [M_senseOf (g.2.1.fm h2.1) hL]
  exact Ev.i ⟨rfl, h.fq (f1.q.tr h2.1.q')⟩
theorem sim_known (x1 x2 : Int32) : SIM (fun w => f_X_known w x1 x2) (fun w => f_M_known w x1 x2) := by
  intro sc N w h
  have h0 := h
  obtain ⟨⟨n, L, K, A, F, M, S, g1, g2⟩, g3, g4, g5, g6⟩ := h0
  have g1' := g1
  obtain ⟨rx, rm, ok, om, bl, sd⟩ := g1
  have hn := ok.1
  have hL := ok.2.1
  show EI (f_X_known w x1 x2) _
  unfold f_X_known
  rcases tri x1 n (by omega) with hb | ⟨i, hi, rfl⟩
  · rw [man_b rx.1 hb]
    simp (disch := omega) only [l0, l1, l2, l3, l4, l5, l6, l7, l8, l9, l10, l12, l20, l30, l31, l40, l99, l160, ite_self, nI_add, nI_leI, nI_ltI, nI_eq, nI_clamp, nI_sub', nI_mul, vpb_n, eq_self, implies_true, grd_t, grd_i, if_pos, if_neg, bI_i, bV_n, bx0, bx1, mh0, mh1, rd_s, rd_o, rd_j, rd_2, rdL_1, ↓reduceIte, Bool.false_eq_true, Bool.true_eq_false, Nat.add_eq, Nat.zero_add, Nat.add_zero, not_true_eq_false, not_false_eq_true]
    refine Ev.i ?_
    show EI (f_M_known (u_X_refuse w (-nI 1)) x1 x2) _
    unfold f_M_known
    rw [mman_b (n := n) (by rw [xr_o (by omega), rm.1]) (by omega) hb]
    simp (disch := omega) only [l0, l1, l2, l3, l4, l5, l6, l7, l8, l9, l10, l12, l20, l30, l31, l40, l99, l160, ite_self, nI_add, nI_leI, nI_ltI, nI_eq, nI_clamp, nI_sub', nI_mul, vpb_n, eq_self, implies_true, grd_t, grd_i, if_pos, if_neg, bI_i, bV_n, bx0, bx1, mh0, mh1, rd_s, rd_o, rd_j, rd_2, rdL_1, ↓reduceIte, Bool.false_eq_true, Bool.true_eq_false, Nat.add_eq, Nat.zero_add, Nat.add_zero, not_true_eq_false, not_false_eq_true]
    exact Ev.i ⟨rfl, inv_ref h (by omega) (by omega)⟩
  rw [man_g rx.1 hi (by omega)]
  rcases tri x2 10 (by omega) with hb | ⟨r, hr, rfl⟩
  · rw [isRo_b hb]
    simp (disch := omega) only [l0, l1, l2, l3, l4, l5, l6, l7, l8, l9, l10, l12, l20, l30, l31, l40, l99, l160, ite_self, nI_add, nI_leI, nI_ltI, nI_eq, nI_clamp, nI_sub', nI_mul, vpb_n, eq_self, implies_true, grd_t, grd_i, if_pos, if_neg, bI_i, bV_n, bx0, bx1, mh0, mh1, rd_s, rd_o, rd_j, rd_2, rdL_1, ↓reduceIte, Bool.false_eq_true, Bool.true_eq_false, Nat.add_eq, Nat.zero_add, Nat.add_zero, not_true_eq_false, not_false_eq_true]
    refine Ev.i ?_
    show EI (f_M_known (u_X_refuse w (-nI 6)) (nI i) x2) _
    unfold f_M_known
    rw [mman_g (n := n) (by rw [xr_o (by omega), rm.1]) (by omega) hi, mro_b hb]
    simp (disch := omega) only [l0, l1, l2, l3, l4, l5, l6, l7, l8, l9, l10, l12, l20, l30, l31, l40, l99, l160, ite_self, nI_add, nI_leI, nI_ltI, nI_eq, nI_clamp, nI_sub', nI_mul, vpb_n, eq_self, implies_true, grd_t, grd_i, if_pos, if_neg, bI_i, bV_n, bx0, bx1, mh0, mh1, rd_s, rd_o, rd_j, rd_2, rdL_1, ↓reduceIte, Bool.false_eq_true, Bool.true_eq_false, Nat.add_eq, Nat.zero_add, Nat.add_zero, not_true_eq_false, not_false_eq_true]
    exact Ev.i ⟨rfl, inv_ref h (by omega) (by omega)⟩
  rw [isRo_g hr]
  simp (disch := omega) only [l0, l1, l2, l3, l4, l5, l6, l7, l8, l9, l10, l12, l20, l30, l31, l40, l99, l160, ite_self, nI_add, nI_leI, nI_ltI, nI_eq, nI_clamp, nI_sub', nI_mul, vpb_n, eq_self, implies_true, grd_t, grd_i, if_pos, if_neg, bI_i, bV_n, bx0, bx1, mh0, mh1, rd_s, rd_o, rd_j, rd_2, rdL_1, ↓reduceIte, Bool.false_eq_true, Bool.true_eq_false, Nat.add_eq, Nat.zero_add, Nat.add_zero, not_true_eq_false, not_false_eq_true]
  refine Ev.bI (sim_knownBehind rx ok hi hr) (fun v w1 h1 => ?_)
  obtain ⟨rfl, f1⟩ := h1
  have g := g1'.fq f1.q
  unfold f_JI_bitCount
  refine Ev.i ?_
  show EI (f_M_known w1 (nI i) (nI r)) _
  unfold f_M_known
  rw [mman_g (n := n) g.2.1.1 (by omega) hi, mro_g hr]
  simp (disch := omega) only [l0, l1, l2, l3, l4, l5, l6, l7, l8, l9, l10, l12, l20, l30, l31, l40, l99, l160, ite_self, nI_add, nI_leI, nI_ltI, nI_eq, nI_clamp, nI_sub', nI_mul, vpb_n, eq_self, implies_true, grd_t, grd_i, if_pos, if_neg, bI_i, bV_n, bx0, bx1, mh0, mh1, rd_s, rd_o, rd_j, rd_2, rdL_1, ↓reduceIte, Bool.false_eq_true, Bool.true_eq_false, Nat.add_eq, Nat.zero_add, Nat.add_zero, not_true_eq_false, not_false_eq_true]
  refine Ev.bV (M_goOn g.2.1 ok (by omega)) (fun w2 h2 => ?_)
  have e := h2.2 i hi
  simp (disch := omega) only [l0, l1, l2, l3, l4, l5, l6, l7, l8, l9, l10, l12, l20, l30, l31, l40, l99, l160, ite_self, nI_add, nI_leI, nI_ltI, nI_eq, nI_clamp, nI_sub', nI_mul, vpb_n, eq_self, implies_true, grd_t, grd_i, if_pos, if_neg, bI_i, bV_n, bx0, bx1, mh0, mh1, rd_s, rd_o, rd_j, rd_2, rdL_1, ↓reduceIte, Bool.false_eq_true, Bool.true_eq_false, Nat.add_eq, Nat.zero_add, Nat.add_zero, not_true_eq_false, not_false_eq_true, e]
  unfold f_JI_bitCount
  exact Ev.i ⟨rfl, h.fq (f1.q.tr h2.1.q')⟩
def pcV (x : Int32) : Int32 := match f_JI_bitCount (fun _ _ => 0, fun _ _ => 0, 0) x with
  | some (some (.int v), _) => v
  | _ => 0
theorem bc (w : MW) (x : Int32) : f_JI_bitCount w x = some (some (.int (pcV x)), w) := rfl
theorem sim_manOf (x1 x2 : Int32) : SIM (fun w => f_X_manOf w x1 x2) (fun w => f_M_manOf w x1 x2) := by
  intro sc N w h
  have h0 := h
  obtain ⟨⟨n, L, K, A, F, M, S, g1, g2⟩, g3, g4, g5, g6⟩ := h0
  obtain ⟨rx, rm, ok, om, bl, sd⟩ := g1
  have hn := ok.1
  show EI (f_X_manOf w x1 x2) _
  unfold f_X_manOf
  rcases tri x1 n (by omega) with hb | ⟨i, hi, rfl⟩
  · rw [man_b rx.1 hb]
    simp (disch := omega) only [l0, l1, l2, l3, l4, l5, l6, l7, l8, l9, l10, l12, l20, l30, l31, l40, l99, l160, ite_self, nI_add, nI_leI, nI_ltI, nI_eq, nI_clamp, nI_sub', nI_mul, vpb_n, eq_self, implies_true, grd_t, grd_i, if_pos, if_neg, bI_i, bV_n, bx0, bx1, mh0, mh1, rd_s, rd_o, rd_j, rd_2, rdL_1, ↓reduceIte, Bool.false_eq_true, Bool.true_eq_false, Nat.add_eq, Nat.zero_add, Nat.add_zero, not_true_eq_false, not_false_eq_true]
    refine Ev.i ?_
    show EI (f_M_manOf (u_X_refuse w (-nI 5)) x1 x2) _
    unfold f_M_manOf
    rw [mman_b (n := n) (by rw [xr_o (by omega), rm.1]) (by omega) hb]
    simp (disch := omega) only [l0, l1, l2, l3, l4, l5, l6, l7, l8, l9, l10, l12, l20, l30, l31, l40, l99, l160, ite_self, nI_add, nI_leI, nI_ltI, nI_eq, nI_clamp, nI_sub', nI_mul, vpb_n, eq_self, implies_true, grd_t, grd_i, if_pos, if_neg, bI_i, bV_n, bx0, bx1, mh0, mh1, rd_s, rd_o, rd_j, rd_2, rdL_1, ↓reduceIte, Bool.false_eq_true, Bool.true_eq_false, Nat.add_eq, Nat.zero_add, Nat.add_zero, not_true_eq_false, not_false_eq_true]
    exact Ev.i ⟨rfl, inv_ref h (by omega) (by omega)⟩
  obtain ⟨c1, c2, c3, c4⟩ := rx.2.2.1 i hi
  obtain ⟨d1, d2, d3, d4⟩ := rm.2.2.1 i hi
  obtain ⟨b1, b2⟩ := bl i hi
  rw [man_g rx.1 hi (by omega), X_his rx ok hi]
  simp (disch := omega) only [l0, l1, l2, l3, l4, l5, l6, l7, l8, l9, l10, l12, l20, l30, l31, l40, l99, l160, ite_self, nI_add, nI_leI, nI_ltI, nI_eq, nI_clamp, nI_sub', nI_mul, vpb_n, eq_self, implies_true, grd_t, grd_i, if_pos, if_neg, bI_i, bV_n, bx0, bx1, mh0, mh1, rd_s, rd_o, rd_j, rd_2, rdL_1, ↓reduceIte, Bool.false_eq_true, Bool.true_eq_false, Nat.add_eq, Nat.zero_add, Nat.add_zero, not_true_eq_false, not_false_eq_true, bc, c1, c2, c3, c4, b2]
  have mm : ∀ w', w'.1 62 3 = nI n → v_M_isMan w' (nI i) = nI 1 := fun w' e => mman_g (n := n) e (by omega) hi
  by_cases e0 : x2 = nI 0
  · subst e0
    simp (disch := omega) only [l0, l1, l2, l3, l4, l5, l6, l7, l8, l9, l10, l12, l20, l30, l31, l40, l99, l160, ite_self, nI_add, nI_leI, nI_ltI, nI_eq, nI_clamp, nI_sub', nI_mul, vpb_n, eq_self, implies_true, grd_t, grd_i, if_pos, if_neg, bI_i, bV_n, bx0, bx1, mh0, mh1, rd_s, rd_o, rd_j, rd_2, rdL_1, ↓reduceIte, Bool.false_eq_true, Bool.true_eq_false, Nat.add_eq, Nat.zero_add, Nat.add_zero, not_true_eq_false, not_false_eq_true]
    refine Ev.i ?_
    show EI (f_M_manOf w (nI i) (nI 0)) _
    unfold f_M_manOf
    rw [mm w rm.1]
    simp (disch := omega) only [l0, l1, l2, l3, l4, l5, l6, l7, l8, l9, l10, l12, l20, l30, l31, l40, l99, l160, ite_self, nI_add, nI_leI, nI_ltI, nI_eq, nI_clamp, nI_sub', nI_mul, vpb_n, eq_self, implies_true, grd_t, grd_i, if_pos, if_neg, bI_i, bV_n, bx0, bx1, mh0, mh1, rd_s, rd_o, rd_j, rd_2, rdL_1, ↓reduceIte, Bool.false_eq_true, Bool.true_eq_false, Nat.add_eq, Nat.zero_add, Nat.add_zero, not_true_eq_false, not_false_eq_true, d1]
    exact Ev.i ⟨rfl, h⟩
  rw [if_neg e0]
  by_cases e1 : x2 = nI 1
  · subst e1
    simp (disch := omega) only [l0, l1, l2, l3, l4, l5, l6, l7, l8, l9, l10, l12, l20, l30, l31, l40, l99, l160, ite_self, nI_add, nI_leI, nI_ltI, nI_eq, nI_clamp, nI_sub', nI_mul, vpb_n, eq_self, implies_true, grd_t, grd_i, if_pos, if_neg, bI_i, bV_n, bx0, bx1, mh0, mh1, rd_s, rd_o, rd_j, rd_2, rdL_1, ↓reduceIte, Bool.false_eq_true, Bool.true_eq_false, Nat.add_eq, Nat.zero_add, Nat.add_zero, not_true_eq_false, not_false_eq_true]
    refine Ev.i ?_
    show EI (f_M_manOf w (nI i) (nI 1)) _
    unfold f_M_manOf
    rw [mm w rm.1]
    simp (disch := omega) only [l0, l1, l2, l3, l4, l5, l6, l7, l8, l9, l10, l12, l20, l30, l31, l40, l99, l160, ite_self, nI_add, nI_leI, nI_ltI, nI_eq, nI_clamp, nI_sub', nI_mul, vpb_n, eq_self, implies_true, grd_t, grd_i, if_pos, if_neg, bI_i, bV_n, bx0, bx1, mh0, mh1, rd_s, rd_o, rd_j, rd_2, rdL_1, ↓reduceIte, Bool.false_eq_true, Bool.true_eq_false, Nat.add_eq, Nat.zero_add, Nat.add_zero, not_true_eq_false, not_false_eq_true, d2]
    exact Ev.i ⟨rfl, h⟩
  rw [if_neg e1]
  by_cases e2 : x2 = nI 2
  · subst e2
    simp (disch := omega) only [l0, l1, l2, l3, l4, l5, l6, l7, l8, l9, l10, l12, l20, l30, l31, l40, l99, l160, ite_self, nI_add, nI_leI, nI_ltI, nI_eq, nI_clamp, nI_sub', nI_mul, vpb_n, eq_self, implies_true, grd_t, grd_i, if_pos, if_neg, bI_i, bV_n, bx0, bx1, mh0, mh1, rd_s, rd_o, rd_j, rd_2, rdL_1, ↓reduceIte, Bool.false_eq_true, Bool.true_eq_false, Nat.add_eq, Nat.zero_add, Nat.add_zero, not_true_eq_false, not_false_eq_true]
    refine Ev.i ?_
    show EI (f_M_manOf w (nI i) (nI 2)) _
    unfold f_M_manOf
    rw [mm w rm.1]
    simp (disch := omega) only [l0, l1, l2, l3, l4, l5, l6, l7, l8, l9, l10, l12, l20, l30, l31, l40, l99, l160, ite_self, nI_add, nI_leI, nI_ltI, nI_eq, nI_clamp, nI_sub', nI_mul, vpb_n, eq_self, implies_true, grd_t, grd_i, if_pos, if_neg, bI_i, bV_n, bx0, bx1, mh0, mh1, rd_s, rd_o, rd_j, rd_2, rdL_1, ↓reduceIte, Bool.false_eq_true, Bool.true_eq_false, Nat.add_eq, Nat.zero_add, Nat.add_zero, not_true_eq_false, not_false_eq_true, d3]
    exact Ev.i ⟨rfl, h⟩
  rw [if_neg e2]
  by_cases e3 : x2 = nI 3
  · subst e3
    simp (disch := omega) only [l0, l1, l2, l3, l4, l5, l6, l7, l8, l9, l10, l12, l20, l30, l31, l40, l99, l160, ite_self, nI_add, nI_leI, nI_ltI, nI_eq, nI_clamp, nI_sub', nI_mul, vpb_n, eq_self, implies_true, grd_t, grd_i, if_pos, if_neg, bI_i, bV_n, bx0, bx1, mh0, mh1, rd_s, rd_o, rd_j, rd_2, rdL_1, ↓reduceIte, Bool.false_eq_true, Bool.true_eq_false, Nat.add_eq, Nat.zero_add, Nat.add_zero, not_true_eq_false, not_false_eq_true]
    refine Ev.i ?_
    show EI (f_M_manOf w (nI i) (nI 3)) _
    unfold f_M_manOf
    rw [mm w rm.1, M_hisOf rm ok hi]
    simp (disch := omega) only [l0, l1, l2, l3, l4, l5, l6, l7, l8, l9, l10, l12, l20, l30, l31, l40, l99, l160, ite_self, nI_add, nI_leI, nI_ltI, nI_eq, nI_clamp, nI_sub', nI_mul, vpb_n, eq_self, implies_true, grd_t, grd_i, if_pos, if_neg, bI_i, bV_n, bx0, bx1, mh0, mh1, rd_s, rd_o, rd_j, rd_2, rdL_1, ↓reduceIte, Bool.false_eq_true, Bool.true_eq_false, Nat.add_eq, Nat.zero_add, Nat.add_zero, not_true_eq_false, not_false_eq_true, bc]
    exact Ev.i ⟨rfl, h⟩
  rw [if_neg e3]
  by_cases e4 : x2 = nI 4
  · subst e4
    simp (disch := omega) only [l0, l1, l2, l3, l4, l5, l6, l7, l8, l9, l10, l12, l20, l30, l31, l40, l99, l160, ite_self, nI_add, nI_leI, nI_ltI, nI_eq, nI_clamp, nI_sub', nI_mul, vpb_n, eq_self, implies_true, grd_t, grd_i, if_pos, if_neg, bI_i, bV_n, bx0, bx1, mh0, mh1, rd_s, rd_o, rd_j, rd_2, rdL_1, ↓reduceIte, Bool.false_eq_true, Bool.true_eq_false, Nat.add_eq, Nat.zero_add, Nat.add_zero, not_true_eq_false, not_false_eq_true]
    refine Ev.i ?_
    show EI (f_M_manOf w (nI i) (nI 4)) _
    unfold f_M_manOf
    rw [mm w rm.1]
    simp (disch := omega) only [l0, l1, l2, l3, l4, l5, l6, l7, l8, l9, l10, l12, l20, l30, l31, l40, l99, l160, ite_self, nI_add, nI_leI, nI_ltI, nI_eq, nI_clamp, nI_sub', nI_mul, vpb_n, eq_self, implies_true, grd_t, grd_i, if_pos, if_neg, bI_i, bV_n, bx0, bx1, mh0, mh1, rd_s, rd_o, rd_j, rd_2, rdL_1, ↓reduceIte, Bool.false_eq_true, Bool.true_eq_false, Nat.add_eq, Nat.zero_add, Nat.add_zero, not_true_eq_false, not_false_eq_true, d4]
    exact Ev.i ⟨rfl, h⟩
  rw [if_neg e4]
  by_cases e5 : x2 = nI 5
  · subst e5
    simp (disch := omega) only [l0, l1, l2, l3, l4, l5, l6, l7, l8, l9, l10, l12, l20, l30, l31, l40, l99, l160, ite_self, nI_add, nI_leI, nI_ltI, nI_eq, nI_clamp, nI_sub', nI_mul, vpb_n, eq_self, implies_true, grd_t, grd_i, if_pos, if_neg, bI_i, bV_n, bx0, bx1, mh0, mh1, rd_s, rd_o, rd_j, rd_2, rdL_1, ↓reduceIte, Bool.false_eq_true, Bool.true_eq_false, Nat.add_eq, Nat.zero_add, Nat.add_zero, not_true_eq_false, not_false_eq_true]
    refine Ev.i ?_
    show EI (f_M_manOf w (nI i) (nI 5)) _
    unfold f_M_manOf
    rw [mm w rm.1]
    simp (disch := omega) only [l0, l1, l2, l3, l4, l5, l6, l7, l8, l9, l10, l12, l20, l30, l31, l40, l99, l160, ite_self, nI_add, nI_leI, nI_ltI, nI_eq, nI_clamp, nI_sub', nI_mul, vpb_n, eq_self, implies_true, grd_t, grd_i, if_pos, if_neg, bI_i, bV_n, bx0, bx1, mh0, mh1, rd_s, rd_o, rd_j, rd_2, rdL_1, ↓reduceIte, Bool.false_eq_true, Bool.true_eq_false, Nat.add_eq, Nat.zero_add, Nat.add_zero, not_true_eq_false, not_false_eq_true]
    exact Ev.i ⟨rfl, h⟩
  rw [if_neg e5]
  refine Ev.i ?_
  show EI (f_M_manOf (u_X_refuse w (-nI 5)) (nI i) x2) _
  unfold f_M_manOf
  rw [mm _ (by rw [xr_o (by omega), rm.1])]
  simp (disch := omega) only [l0, l1, l2, l3, l4, l5, l6, l7, l8, l9, l10, l12, l20, l30, l31, l40, l99, l160, ite_self, nI_add, nI_leI, nI_ltI, nI_eq, nI_clamp, nI_sub', nI_mul, vpb_n, eq_self, implies_true, grd_t, grd_i, if_pos, if_neg, bI_i, bV_n, bx0, bx1, mh0, mh1, rd_s, rd_o, rd_j, rd_2, rdL_1, ↓reduceIte, Bool.false_eq_true, Bool.true_eq_false, Nat.add_eq, Nat.zero_add, Nat.add_zero, not_true_eq_false, not_false_eq_true, e0, e1, e2, e3, e4, e5]
  exact Ev.i ⟨rfl, inv_ref h (by omega) (by omega)⟩
/-! places heard by a set -/
theorem X_listen {w : MW} {n L : Nat} {K A F : Nat → Nat} {M S : Nat → Int32} (rx : RX 1 w n L K A F M S) (ok : OK n L K A F) : EV (f_Cl_listen w 1) (fun w' => FX w w' ∧ (∀ i, i < n → w'.1 59 i = hs K A F L i) ∧ w'.1 58 = w.1 58) := by
  have hn := ok.1
  unfold f_Cl_listen
  refine lp (σ := MW) (F := fun m w' i => f_Cl_listen_2 1 m w' (nI i)) (fun w' i => FX w w' ∧ (∀ j, j < i → w'.1 59 j = hs K A F L j) ∧ w'.1 58 = w.1 58) n 0 w ⟨FX.rfl w, fun j hj => by omega, rfl⟩ (by omega) (by omega) ?_ ?_
  · intro m w' hi
    obtain ⟨i1, i2, i3⟩ := hi
    have rx' := rx.fx hn (by omega) i1
    have e1 := rx'.1
    show Ev (f_Cl_listen_2 1 (m + 1) w' (nI n)) _
    rw [f_Cl_listen_2]
    simp (disch := omega) only [l0, l1, l2, l3, l4, l5, l6, l7, l8, l9, l10, l12, l20, l30, l31, l40, l99, l160, ite_self, nI_add, nI_leI, nI_ltI, nI_eq, nI_clamp, nI_sub', nI_mul, vpb_n, eq_self, implies_true, grd_t, grd_i, if_pos, if_neg, bI_i, bV_n, bx0, bx1, mh0, mh1, rd_s, rd_o, rd_j, rd_2, rdL_1, ↓reduceIte, Bool.false_eq_true, Bool.true_eq_false, Nat.add_eq, Nat.zero_add, Nat.add_zero, not_true_eq_false, not_false_eq_true, e1]
    have e1' : w'.1 (nI 1).toNatClampNeg (nI 1).toNatClampNeg = nI n := e1
    exact Ev.v ⟨i1, i2, i3⟩
  · intro m w' i _ hi hinv kk
    obtain ⟨i1, i2, i3⟩ := hinv
    have rx' := rx.fx hn (by omega) i1
    have e1 := rx'.1
    show Ev (f_Cl_listen_2 1 (m + 1) w' (nI i)) _
    rw [f_Cl_listen_2, X_his rx' ok hi]
    simp (disch := omega) only [l0, l1, l2, l3, l4, l5, l6, l7, l8, l9, l10, l12, l20, l30, l31, l40, l99, l160, ite_self, nI_add, nI_leI, nI_ltI, nI_eq, nI_clamp, nI_sub', nI_mul, vpb_n, eq_self, implies_true, grd_t, grd_i, if_pos, if_neg, bI_i, bV_n, bx0, bx1, mh0, mh1, rd_s, rd_o, rd_j, rd_2, rdL_1, ↓reduceIte, Bool.false_eq_true, Bool.true_eq_false, Nat.add_eq, Nat.zero_add, Nat.add_zero, not_true_eq_false, not_false_eq_true, e1]
    refine kk _ ⟨i1.set (by omega), fun j hj => ?_, by simp (disch := omega) only [l0, l1, l2, l3, l4, l5, l6, l7, l8, l9, l10, l12, l20, l30, l31, l40, l99, l160, ite_self, nI_add, nI_leI, nI_ltI, nI_eq, nI_clamp, nI_sub', nI_mul, vpb_n, eq_self, implies_true, grd_t, grd_i, if_pos, if_neg, bI_i, bV_n, bx0, bx1, mh0, mh1, rd_s, rd_o, rd_j, rd_2, rdL_1, ↓reduceIte, Bool.false_eq_true, Bool.true_eq_false, Nat.add_eq, Nat.zero_add, Nat.add_zero, not_true_eq_false, not_false_eq_true]; exact i3⟩
    by_cases e : j = i
    · subst e
      simp (disch := omega) only [l0, l1, l2, l3, l4, l5, l6, l7, l8, l9, l10, l12, l20, l30, l31, l40, l99, l160, ite_self, nI_add, nI_leI, nI_ltI, nI_eq, nI_clamp, nI_sub', nI_mul, vpb_n, eq_self, implies_true, grd_t, grd_i, if_pos, if_neg, bI_i, bV_n, bx0, bx1, mh0, mh1, rd_s, rd_o, rd_j, rd_2, rdL_1, ↓reduceIte, Bool.false_eq_true, Bool.true_eq_false, Nat.add_eq, Nat.zero_add, Nat.add_zero, not_true_eq_false, not_false_eq_true]
    · have := i2 j (by omega)
      simp (disch := omega) only [l0, l1, l2, l3, l4, l5, l6, l7, l8, l9, l10, l12, l20, l30, l31, l40, l99, l160, ite_self, nI_add, nI_leI, nI_ltI, nI_eq, nI_clamp, nI_sub', nI_mul, vpb_n, eq_self, implies_true, grd_t, grd_i, if_pos, if_neg, bI_i, bV_n, bx0, bx1, mh0, mh1, rd_s, rd_o, rd_j, rd_2, rdL_1, ↓reduceIte, Bool.false_eq_true, Bool.true_eq_false, Nat.add_eq, Nat.zero_add, Nat.add_zero, not_true_eq_false, not_false_eq_true, this]
def anyV (H : Nat → Int32) (x : Int32) (n : Nat) : Int32 := orF (fun j => bt x j) H n 0 (nI 0)
theorem orF_no {P : Nat → Bool} {k : Nat → Int32} : ∀ (m j : Nat) (acc : Int32), (∀ l, j ≤ l → P l = false) → orF P k m j acc = acc := by
  intro m
  induction m with
  | zero => intro j acc h; rfl
  | succ m ih =>
    intro j acc h
    rw [orF, h j (Nat.le_refl _), if_neg (by decide)]
    exact ih (j + 1) acc (fun l hl => h l (by omega))
theorem X_heardByAny {w : MW} {n : Nat} {H : Nat → Int32} {x : Int32} (hn : n ≤ 8) (hx : ∀ j, n ≤ j → bt x j = false) (hH : ∀ i, i < n → w.1 59 i = H i) : f_Cl_heardByAny w x = some (some (.int (anyV H x n)), w) := by
  unfold f_Cl_heardByAny
  have h : EI (f_Cl_heardByAny_4 FU w x (nI 0) (nI 0)) (fun v w' => v = anyV H x n ∧ w' = w) := by
    refine lp (σ := Int32) (F := fun m a i => f_Cl_heardByAny_4 m w x a (nI i)) (fun a i => orF (fun j => bt x j) H (n - i) i a = anyV H x n) 8 0 (nI 0) rfl (by omega) (by omega) ?_ ?_
    · intro m a hi
      show Ev (f_Cl_heardByAny_4 (m + 1) w x a (nI 8)) _
      rw [f_Cl_heardByAny_4]
      simp (disch := omega) only [l0, l1, l2, l3, l4, l5, l6, l7, l8, l9, l10, l12, l20, l30, l31, l40, l99, l160, ite_self, nI_add, nI_leI, nI_ltI, nI_eq, nI_clamp, nI_sub', nI_mul, vpb_n, eq_self, implies_true, grd_t, grd_i, if_pos, if_neg, bI_i, bV_n, bx0, bx1, mh0, mh1, rd_s, rd_o, rd_j, rd_2, rdL_1, ↓reduceIte, Bool.false_eq_true, Bool.true_eq_false, Nat.add_eq, Nat.zero_add, Nat.add_zero, not_true_eq_false, not_false_eq_true]
      rw [show n - 8 = 0 by omega] at hi
      exact Ev.i ⟨hi, rfl⟩
    · intro m a i _ hi hinv kk
      show Ev (f_Cl_heardByAny_4 (m + 1) w x a (nI i)) _
      rw [f_Cl_heardByAny_4]
      simp (disch := omega) only [l0, l1, l2, l3, l4, l5, l6, l7, l8, l9, l10, l12, l20, l30, l31, l40, l99, l160, ite_self, nI_add, nI_leI, nI_ltI, nI_eq, nI_clamp, nI_sub', nI_mul, vpb_n, eq_self, implies_true, grd_t, grd_i, if_pos, if_neg, bI_i, bV_n, bx0, bx1, mh0, mh1, rd_s, rd_o, rd_j, rd_2, rdL_1, ↓reduceIte, Bool.false_eq_true, Bool.true_eq_false, Nat.add_eq, Nat.zero_add, Nat.add_zero, not_true_eq_false, not_false_eq_true]
      by_cases hb : bt x i = true
      · have hin : i < n := Decidable.byContradiction fun q => by
          rw [hx i (by omega)] at hb
          cases hb
        rw [if_pos hb, hH i hin]
        rw [orF_s hin, if_pos hb] at hinv
        exact kk _ hinv
      · rw [if_neg hb]
        by_cases hin : i < n
        · rw [orF_s hin, if_neg hb] at hinv
          exact kk _ hinv
        · rw [show n - i = 0 by omega] at hinv
          refine kk _ ?_
          rw [show n - (i + 1) = 0 by omega]
          exact hinv
  obtain ⟨r, w', e, v, rfl, rfl, rfl⟩ := h
  exact e
theorem M_heardBy {w : MW} {n L : Nat} {K A F : Nat → Nat} {M S : Nat → Int32} {x : Int32} (rm : RM w n L K A F M S) (ok : OK n L K A F) : f_M_heardBy w x = some (some (.int (anyV (hs K A F L) x n)), w) := by
  have hn := ok.1
  unfold f_M_heardBy
  have h : EI (f_M_heardBy_4 FU w x (nI 0) (nI 0)) (fun v w' => v = anyV (hs K A F L) x n ∧ w' = w) := by
    refine lp (σ := Int32) (F := fun m a i => f_M_heardBy_4 m w x a (nI i)) (fun a i => orF (fun j => bt x j) (hs K A F L) (n - i) i a = anyV (hs K A F L) x n) n 0 (nI 0) rfl (by omega) (by omega) ?_ ?_
    · intro m a hi
      show Ev (f_M_heardBy_4 (m + 1) w x a (nI n)) _
      rw [f_M_heardBy_4]
      have e1 := rm.1
      simp (disch := omega) only [l0, l1, l2, l3, l4, l5, l6, l7, l8, l9, l10, l12, l20, l30, l31, l40, l99, l160, ite_self, nI_add, nI_leI, nI_ltI, nI_eq, nI_clamp, nI_sub', nI_mul, vpb_n, eq_self, implies_true, grd_t, grd_i, if_pos, if_neg, bI_i, bV_n, bx0, bx1, mh0, mh1, rd_s, rd_o, rd_j, rd_2, rdL_1, ↓reduceIte, Bool.false_eq_true, Bool.true_eq_false, Nat.add_eq, Nat.zero_add, Nat.add_zero, not_true_eq_false, not_false_eq_true, e1]
      rw [orF_e] at hi
      exact Ev.i ⟨hi, rfl⟩
    · intro m a i _ hi hinv kk
      show Ev (f_M_heardBy_4 (m + 1) w x a (nI i)) _
      rw [f_M_heardBy_4, M_hisOf rm ok hi]
      have e1 := rm.1
      simp (disch := omega) only [l0, l1, l2, l3, l4, l5, l6, l7, l8, l9, l10, l12, l20, l30, l31, l40, l99, l160, ite_self, nI_add, nI_leI, nI_ltI, nI_eq, nI_clamp, nI_sub', nI_mul, vpb_n, eq_self, implies_true, grd_t, grd_i, if_pos, if_neg, bI_i, bV_n, bx0, bx1, mh0, mh1, rd_s, rd_o, rd_j, rd_2, rdL_1, ↓reduceIte, Bool.false_eq_true, Bool.true_eq_false, Nat.add_eq, Nat.zero_add, Nat.add_zero, not_true_eq_false, not_false_eq_true, e1]
      rw [orF_s hi] at hinv
      by_cases hb : bt x i = true
      · rw [if_neg (by rw [hb]; decide)]
        rw [if_pos hb] at hinv
        exact kk _ hinv
      · rw [if_pos (by simpa using hb)]
        rw [if_neg hb] at hinv
        exact kk _ hinv
  obtain ⟨r, w', e, v, rfl, rfl, rfl⟩ := h
  exact e
/-! sets of courtiers -/
theorem set_iff (x : Int32) {n : Nat} (hn : n ≤ 8) : (ush x (nI n) = nI 0 ↔ ∃ m, m < 2 ^ n ∧ x = nI m) ∧ (x < nI 0 ∨ nI 1 <<< (nI n &&& nI 31) ≤ x ↔ ¬ ∃ m, m < 2 ^ n ∧ x = nI m) := by
  have hp : 2 ^ n ≤ 256 := Nat.pow_le_pow_right (n := 2) (by omega) hn
  have h1 : nI 1 <<< (nI n &&& nI 31) = nI (2 ^ n) := by
    have := nI_sh1 (p := n) (by omega)
    rw [Nat.one_shiftLeft] at this
    exact this
  by_cases hx : x < 0
  · have hno : ¬ ∃ m, m < 2 ^ n ∧ x = nI m := by
      rintro ⟨m, hm, rfl⟩
      exact nI_pos (by omega) hx
    refine ⟨⟨fun e => ?_, fun e => absurd e hno⟩, ⟨fun _ => hno, fun _ => .inl hx⟩⟩
    exfalso
    have e2 : bt (ush x (nI n)) (31 - n) = true := by
      show (ush x (nI n)).toBitVec.getLsbD (31 - n) = true
      rw [ush_bv x (by omega), BitVec.getLsbD_ushiftRight, show n + (31 - n) = 31 by omega]
      have e3 : x.toBitVec.msb = true := by
        rw [Int32.lt_iff_toBitVec_slt] at hx
        have e4 : x.toBitVec.slt 0#32 = true := hx
        rw [BitVec.slt_zero_eq_msb] at e4
        exact e4
      rw [BitVec.msb_eq_getLsbD_last] at e3
      exact e3
    rw [e, show nI 0 = 0 from rfl, bt_0] at e2
    cases e2
  · obtain ⟨j, hj, rfl⟩ := nI_of hx
    rw [ush_nI hj (by omega), h1, nI_leI (by omega) hj]
    have hs : j >>> n ≤ j := Nat.shiftRight_le _ _
    rw [nI_eq (by omega) (by omega), Nat.shiftRight_eq_div_pow]
    have e1 : (∃ m, m < 2 ^ n ∧ nI j = nI m) ↔ j < 2 ^ n := by
      constructor
      · rintro ⟨m, hm, e⟩
        rw [nI_eq hj (by omega)] at e
        omega
      · intro e
        exact ⟨j, e, rfl⟩
    rw [e1, Nat.div_eq_zero_iff]
    have : 0 < 2 ^ n := Nat.two_pow_pos n
    refine ⟨by omega, ⟨fun q => ?_, fun q => ?_⟩⟩
    · rcases q with q | q
      · exact absurd q hx
      · omega
    · exact .inr (by omega)
theorem set_bits {m n : Nat} (h : m < 2 ^ n) (j : Nat) (hj : n ≤ j) : bt (nI m) j = false := by
  rw [bt_nI, Nat.testBit_lt_two_pow (Nat.lt_of_lt_of_le h (Nat.pow_le_pow_right (by omega) hj))]
  simp
theorem X_isSet {w : MW} {n : Nat} {x : Int32} (hn : n ≤ 8) (e : w.1 1 1 = nI n) : ((∃ m, m < 2 ^ n ∧ x = nI m) → v_Ct_isSet w 1 x = nI 1) ∧ ((¬ ∃ m, m < 2 ^ n ∧ x = nI m) → v_Ct_isSet w 1 x = nI 0) := by
  unfold v_Ct_isSet
  rw [e]
  refine ⟨fun h => ?_, fun h => ?_⟩
  · exact if_pos ((set_iff x hn).1.mpr h)
  · exact if_neg (fun q => h ((set_iff x hn).1.mp q))
theorem M_isSet {w : MW} {n : Nat} {x : Int32} (hn : n ≤ 8) (e : w.1 62 3 = nI n) : ((∃ m, m < 2 ^ n ∧ x = nI m) → f_M_isSet w x = some (some (.int (nI 1)), w)) ∧ ((¬ ∃ m, m < 2 ^ n ∧ x = nI m) → f_M_isSet w x = some (some (.int (nI 0)), w)) := by
  unfold f_M_isSet
  rw [e]
  have h2 := (set_iff x hn).2
  refine ⟨fun h => ?_, fun h => ?_⟩
  · have h3 := fun q => h2.mp q h
    have q1 : ¬ x < nI 0 := fun q => h3 (.inl q)
    have q2 : ¬ nI 1 <<< (nI n &&& nI 31) ≤ x := fun q => h3 (.inr q)
    simp (disch := omega) only [l0, l1, l2, l3, l4, l5, l6, l7, l8, l9, l10, l12, l20, l30, l31, l40, l99, l160, ite_self, nI_add, nI_leI, nI_ltI, nI_eq, nI_clamp, nI_sub', nI_mul, vpb_n, eq_self, implies_true, grd_t, grd_i, if_pos, if_neg, bI_i, bV_n, bx0, bx1, mh0, mh1, rd_s, rd_o, rd_j, rd_2, rdL_1, ↓reduceIte, Bool.false_eq_true, Bool.true_eq_false, Nat.add_eq, Nat.zero_add, Nat.add_zero, not_true_eq_false, not_false_eq_true, q1, q2]
  · have h3 := h2.mpr h
    by_cases q : x < nI 0
    · simp (disch := omega) only [l0, l1, l2, l3, l4, l5, l6, l7, l8, l9, l10, l12, l20, l30, l31, l40, l99, l160, ite_self, nI_add, nI_leI, nI_ltI, nI_eq, nI_clamp, nI_sub', nI_mul, vpb_n, eq_self, implies_true, grd_t, grd_i, if_pos, if_neg, bI_i, bV_n, bx0, bx1, mh0, mh1, rd_s, rd_o, rd_j, rd_2, rdL_1, ↓reduceIte, Bool.false_eq_true, Bool.true_eq_false, Nat.add_eq, Nat.zero_add, Nat.add_zero, not_true_eq_false, not_false_eq_true, q]
    · have q2 := h3.resolve_left q
      simp (disch := omega) only [l0, l1, l2, l3, l4, l5, l6, l7, l8, l9, l10, l12, l20, l30, l31, l40, l99, l160, ite_self, nI_add, nI_leI, nI_ltI, nI_eq, nI_clamp, nI_sub', nI_mul, vpb_n, eq_self, implies_true, grd_t, grd_i, if_pos, if_neg, bI_i, bV_n, bx0, bx1, mh0, mh1, rd_s, rd_o, rd_j, rd_2, rdL_1, ↓reduceIte, Bool.false_eq_true, Bool.true_eq_false, Nat.add_eq, Nat.zero_add, Nat.add_zero, not_true_eq_false, not_false_eq_true, q, q2]
