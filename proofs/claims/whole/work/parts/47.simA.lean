/-! calls, one by one: state and shelves -/
theorem CT.fq {w w' : MW} {n L : Nat} {K A F : Nat → Nat} {M S : Nat → Int32} (h : CT w n L K A F M S) (f : FQ w w') : CT w' n L K A F M S :=
  h.ag (fun a j p => f.1 a j (by unfold pCT at p; unfold Sc; omega))
theorem SH.fq {w w' : MW} {n s : Nat} (hs : s < 8) (h : SH w n s) (f : FQ w w') : SH w' n s :=
  h.ag hs (fun a j p => f.1 a j (by unfold pSH at p; unfold Sc; omega)) (by rw [f.2.2])
theorem RW.fq {w w' : MW} {s t len : Nat} (hs : s < 8) (h : RW w s t len) (f : FQ w w') : RW w' s t len :=
  h.ag hs (fun a j p => f.1 a j (by unfold pSH at p; unfold Sc; omega)) (by rw [f.2.2])
theorem FQ.rfl (w : MW) : FQ w w := (FX.rfl w).q
theorem SH.held {w : MW} {n s : Nat} (h : SH w n s) : w.1 (35 + 2 * s) 0 = w.1 63 s := by
  rcases h with ⟨h1, h2, h3⟩ | ⟨m, h0, h1, h2, h3⟩ | ⟨t, len, h⟩
  · rw [h1, h2]
  · rw [h1, h2]
  · rw [h.2.2.1, h.2.2.2.1]
def SIMJ (x m : MW → Option RT) : Prop := ∀ (sc : Nat → Int32) (N : Nat) (w : MW), Inv sc N w → ∃ v, x w = some (some (.long v), w) ∧ m w = some (some (.long v), w)
theorem sim_element (x1 x2 : Int32) : SIMJ (fun w => f_X_element w x1 x2) (fun w => f_M_element w x1 x2) := by
  intro sc N w h
  obtain ⟨⟨n, L, K, A, F, M, S, g1, g2⟩, g3, g4, g5, g6⟩ := h
  show ∃ v, f_X_element w x1 x2 = _ ∧ f_M_element w x1 x2 = _
  unfold f_X_element f_M_element
  rcases tri x1 8 (by omega) with hb | ⟨s, hs, rfl⟩
  · rw [isSh_b hb, w7_b hb]
    simp (disch := omega) only [l0, l1, l2, l3, l4, l5, l6, l7, l8, l9, l10, l12, l20, l30, l31, l40, l99, l160, ite_self, nI_add, nI_leI, nI_ltI, nI_eq, nI_clamp, nI_sub', nI_mul, vpb_n, eq_self, implies_true, grd_t, grd_i, if_pos, if_neg, bI_i, bV_n, bx0, bx1, mh0, mh1, rd_s, rd_o, rd_j, rd_2, rdL_1, ↓reduceIte, Bool.false_eq_true, Bool.true_eq_false, Nat.add_eq, Nat.zero_add, Nat.add_zero, not_true_eq_false, not_false_eq_true]
    exact ⟨_, rfl, rfl⟩
  rw [isSh_g hs, w7_g hs]
  unfold v_Sh_isRow v_M_isRow
  obtain ⟨n1, n2, n3, n4, n5⟩ := neg_lt0 (c := 1) (by omega) (by omega)
  rcases g2 s hs with ⟨h1, h2, h3⟩ | ⟨m, h0, h1, h2, h3⟩ | ⟨t, len, h1, h2, h3, h4, h5, h6, h7⟩
  · simp (disch := omega) only [l0, l1, l2, l3, l4, l5, l6, l7, l8, l9, l10, l12, l20, l30, l31, l40, l99, l160, ite_self, nI_add, nI_leI, nI_ltI, nI_eq, nI_clamp, nI_sub', nI_mul, vpb_n, eq_self, implies_true, grd_t, grd_i, if_pos, if_neg, bI_i, bV_n, bx0, bx1, mh0, mh1, rd_s, rd_o, rd_j, rd_2, rdL_1, ↓reduceIte, Bool.false_eq_true, Bool.true_eq_false, Nat.add_eq, Nat.zero_add, Nat.add_zero, not_true_eq_false, not_false_eq_true, h1, h2, l100, n5]
    exact ⟨_, rfl, rfl⟩
  · have := g1.2.2.1.1
    simp (disch := omega) only [l0, l1, l2, l3, l4, l5, l6, l7, l8, l9, l10, l12, l20, l30, l31, l40, l99, l160, ite_self, nI_add, nI_leI, nI_ltI, nI_eq, nI_clamp, nI_sub', nI_mul, vpb_n, eq_self, implies_true, grd_t, grd_i, if_pos, if_neg, bI_i, bV_n, bx0, bx1, mh0, mh1, rd_s, rd_o, rd_j, rd_2, rdL_1, ↓reduceIte, Bool.false_eq_true, Bool.true_eq_false, Nat.add_eq, Nat.zero_add, Nat.add_zero, not_true_eq_false, not_false_eq_true, h1, h2, l100]
    exact ⟨_, rfl, rfl⟩
  · rcases tri x2 len (by omega) with hb | ⟨i, hi, rfl⟩
    · have e1 : v_M_within w x2 (0 : Int32) (w.1 64 s - 1) = nI 0 := wi_b (n := len) (by omega) (by rw [h6]; rfl) hb
      have e2 := has_b h5 hb
      have e1' : v_M_within w x2 (nI 0) (w.1 64 s - nI 1) = nI 0 := e1
      simp (disch := omega) only [l0, l1, l2, l3, l4, l5, l6, l7, l8, l9, l10, l12, l20, l30, l31, l40, l99, l160, ite_self, nI_add, nI_leI, nI_ltI, nI_eq, nI_clamp, nI_sub', nI_mul, vpb_n, eq_self, implies_true, grd_t, grd_i, if_pos, if_neg, bI_i, bV_n, bx0, bx1, mh0, mh1, rd_s, rd_o, rd_j, rd_2, rdL_1, ↓reduceIte, Bool.false_eq_true, Bool.true_eq_false, Nat.add_eq, Nat.zero_add, Nat.add_zero, not_true_eq_false, not_false_eq_true, h3, h4, l100, e2, e1']
      exact ⟨_, rfl, rfl⟩
    · have e1 : v_M_within w (nI i) (nI 0) (w.1 64 s - nI 1) = nI 1 := wi_g (n := len) (by omega) (by rw [h6]) hi
      have e2 := has_g h5 hi (by omega)
      simp (disch := omega) only [l0, l1, l2, l3, l4, l5, l6, l7, l8, l9, l10, l12, l20, l30, l31, l40, l99, l160, ite_self, nI_add, nI_leI, nI_ltI, nI_eq, nI_clamp, nI_sub', nI_mul, vpb_n, eq_self, implies_true, grd_t, grd_i, if_pos, if_neg, bI_i, bV_n, bx0, bx1, mh0, mh1, rd_s, rd_o, rd_j, rd_2, rdL_1, ↓reduceIte, Bool.false_eq_true, Bool.true_eq_false, Nat.add_eq, Nat.zero_add, Nat.add_zero, not_true_eq_false, not_false_eq_true, h3, h4, l100, e1, e2]
      exact ⟨_, by rw [h7 i hi], rfl⟩
theorem sim_holds (x1 : Int32) : SIM (fun w => f_X_holds w x1) (fun w => f_M_holds w x1) := by
  intro sc N w h
  have h0 := h
  obtain ⟨⟨n, L, K, A, F, M, S, g1, g2⟩, g3, g4, g5, g6⟩ := h0
  show EI (f_X_holds w x1) _
  unfold f_X_holds
  rcases tri x1 8 (by omega) with hb | ⟨s, hs, rfl⟩
  · rw [isSh_b hb]
    simp (disch := omega) only [l0, l1, l2, l3, l4, l5, l6, l7, l8, l9, l10, l12, l20, l30, l31, l40, l99, l160, ite_self, nI_add, nI_leI, nI_ltI, nI_eq, nI_clamp, nI_sub', nI_mul, vpb_n, eq_self, implies_true, grd_t, grd_i, if_pos, if_neg, bI_i, bV_n, bx0, bx1, mh0, mh1, rd_s, rd_o, rd_j, rd_2, rdL_1, ↓reduceIte, Bool.false_eq_true, Bool.true_eq_false, Nat.add_eq, Nat.zero_add, Nat.add_zero, not_true_eq_false, not_false_eq_true]
    refine Ev.i ?_
    show EI (f_M_holds w x1) _
    unfold f_M_holds
    rw [w7_b hb]
    simp (disch := omega) only [l0, l1, l2, l3, l4, l5, l6, l7, l8, l9, l10, l12, l20, l30, l31, l40, l99, l160, ite_self, nI_add, nI_leI, nI_ltI, nI_eq, nI_clamp, nI_sub', nI_mul, vpb_n, eq_self, implies_true, grd_t, grd_i, if_pos, if_neg, bI_i, bV_n, bx0, bx1, mh0, mh1, rd_s, rd_o, rd_j, rd_2, rdL_1, ↓reduceIte, Bool.false_eq_true, Bool.true_eq_false, Nat.add_eq, Nat.zero_add, Nat.add_zero, not_true_eq_false, not_false_eq_true]
    exact Ev.i ⟨rfl, h⟩
  · rw [isSh_g hs]
    simp (disch := omega) only [l0, l1, l2, l3, l4, l5, l6, l7, l8, l9, l10, l12, l20, l30, l31, l40, l99, l160, ite_self, nI_add, nI_leI, nI_ltI, nI_eq, nI_clamp, nI_sub', nI_mul, vpb_n, eq_self, implies_true, grd_t, grd_i, if_pos, if_neg, bI_i, bV_n, bx0, bx1, mh0, mh1, rd_s, rd_o, rd_j, rd_2, rdL_1, ↓reduceIte, Bool.false_eq_true, Bool.true_eq_false, Nat.add_eq, Nat.zero_add, Nat.add_zero, not_true_eq_false, not_false_eq_true]
    refine Ev.i ?_
    show EI (f_M_holds w (nI s)) _
    unfold f_M_holds
    rw [w7_g hs]
    simp (disch := omega) only [l0, l1, l2, l3, l4, l5, l6, l7, l8, l9, l10, l12, l20, l30, l31, l40, l99, l160, ite_self, nI_add, nI_leI, nI_ltI, nI_eq, nI_clamp, nI_sub', nI_mul, vpb_n, eq_self, implies_true, grd_t, grd_i, if_pos, if_neg, bI_i, bV_n, bx0, bx1, mh0, mh1, rd_s, rd_o, rd_j, rd_2, rdL_1, ↓reduceIte, Bool.false_eq_true, Bool.true_eq_false, Nat.add_eq, Nat.zero_add, Nat.add_zero, not_true_eq_false, not_false_eq_true]
    exact Ev.i ⟨(g2 s hs).held.symm, h⟩
theorem sim_fault : SIM (fun w => f_X_fault w) (fun w => f_M_fault w) := by
  intro sc N w h
  exact Ev.i (Ev.i ⟨h.2.1.1.symm, h⟩)
theorem sim_seed (x1 : Int32) : SIM (fun w => f_X_seed w x1) (fun w => f_M_seed w x1) := by
  intro sc N w h
  obtain ⟨⟨n, L, K, A, F, M, S, g1, g2⟩, g3, g4, g5, g6⟩ := h
  obtain ⟨⟨a1, a2, a3, a4⟩, ⟨b1, b2, b3, b4⟩, ok, om, bl, sd⟩ := g1
  have hn := ok.1
  refine Ev.i (Ev.i ⟨?_, ⟨⟨n, L, K, A, F, M, S, ⟨⟨?_, ?_, fun i hi => ?_, fun p hp => ?_⟩, ⟨?_, ?_, fun i hi => ?_, fun p hp => ?_⟩, ok, om, fun i hi => ?_, ?_⟩, fun s hs => (g2 s hs).ag hs (fun a j p => ?_) rfl⟩, g3.ag (fun a j p => ?_), g4.ag (fun a j p => ?_), g5.ag (fun a j p => ?_), g6.ag (fun a p => ?_) rfl (by rw [rd_j (by omega), rd_o (by omega)]) (fun p => by rw [rd_o (by omega), rd_o (by omega)])⟩⟩)
  · simp (disch := omega) only [l0, l1, l2, l3, l4, l5, l6, l7, l8, l9, l10, l12, l20, l30, l31, l40, l99, l160, ite_self, nI_add, nI_leI, nI_ltI, nI_eq, nI_clamp, nI_sub', nI_mul, vpb_n, eq_self, implies_true, grd_t, grd_i, if_pos, if_neg, bI_i, bV_n, bx0, bx1, mh0, mh1, rd_s, rd_o, rd_j, rd_2, rdL_1, ↓reduceIte, Bool.false_eq_true, Bool.true_eq_false, Nat.add_eq, Nat.zero_add, Nat.add_zero, not_true_eq_false, not_false_eq_true]
    exact sd.symm
  · simp (disch := omega) only [l0, l1, l2, l3, l4, l5, l6, l7, l8, l9, l10, l12, l20, l30, l31, l40, l99, l160, ite_self, nI_add, nI_leI, nI_ltI, nI_eq, nI_clamp, nI_sub', nI_mul, vpb_n, eq_self, implies_true, grd_t, grd_i, if_pos, if_neg, bI_i, bV_n, bx0, bx1, mh0, mh1, rd_s, rd_o, rd_j, rd_2, rdL_1, ↓reduceIte, Bool.false_eq_true, Bool.true_eq_false, Nat.add_eq, Nat.zero_add, Nat.add_zero, not_true_eq_false, not_false_eq_true]
    exact a1
  · simp (disch := omega) only [l0, l1, l2, l3, l4, l5, l6, l7, l8, l9, l10, l12, l20, l30, l31, l40, l99, l160, ite_self, nI_add, nI_leI, nI_ltI, nI_eq, nI_clamp, nI_sub', nI_mul, vpb_n, eq_self, implies_true, grd_t, grd_i, if_pos, if_neg, bI_i, bV_n, bx0, bx1, mh0, mh1, rd_s, rd_o, rd_j, rd_2, rdL_1, ↓reduceIte, Bool.false_eq_true, Bool.true_eq_false, Nat.add_eq, Nat.zero_add, Nat.add_zero, not_true_eq_false, not_false_eq_true]
    exact a2
  · simp (disch := omega) only [l0, l1, l2, l3, l4, l5, l6, l7, l8, l9, l10, l12, l20, l30, l31, l40, l99, l160, ite_self, nI_add, nI_leI, nI_ltI, nI_eq, nI_clamp, nI_sub', nI_mul, vpb_n, eq_self, implies_true, grd_t, grd_i, if_pos, if_neg, bI_i, bV_n, bx0, bx1, mh0, mh1, rd_s, rd_o, rd_j, rd_2, rdL_1, ↓reduceIte, Bool.false_eq_true, Bool.true_eq_false, Nat.add_eq, Nat.zero_add, Nat.add_zero, not_true_eq_false, not_false_eq_true]
    exact a3 i hi
  · simp (disch := omega) only [l0, l1, l2, l3, l4, l5, l6, l7, l8, l9, l10, l12, l20, l30, l31, l40, l99, l160, ite_self, nI_add, nI_leI, nI_ltI, nI_eq, nI_clamp, nI_sub', nI_mul, vpb_n, eq_self, implies_true, grd_t, grd_i, if_pos, if_neg, bI_i, bV_n, bx0, bx1, mh0, mh1, rd_s, rd_o, rd_j, rd_2, rdL_1, ↓reduceIte, Bool.false_eq_true, Bool.true_eq_false, Nat.add_eq, Nat.zero_add, Nat.add_zero, not_true_eq_false, not_false_eq_true]
    exact a4 p hp
  · simp (disch := omega) only [l0, l1, l2, l3, l4, l5, l6, l7, l8, l9, l10, l12, l20, l30, l31, l40, l99, l160, ite_self, nI_add, nI_leI, nI_ltI, nI_eq, nI_clamp, nI_sub', nI_mul, vpb_n, eq_self, implies_true, grd_t, grd_i, if_pos, if_neg, bI_i, bV_n, bx0, bx1, mh0, mh1, rd_s, rd_o, rd_j, rd_2, rdL_1, ↓reduceIte, Bool.false_eq_true, Bool.true_eq_false, Nat.add_eq, Nat.zero_add, Nat.add_zero, not_true_eq_false, not_false_eq_true]
    exact b1
  · simp (disch := omega) only [l0, l1, l2, l3, l4, l5, l6, l7, l8, l9, l10, l12, l20, l30, l31, l40, l99, l160, ite_self, nI_add, nI_leI, nI_ltI, nI_eq, nI_clamp, nI_sub', nI_mul, vpb_n, eq_self, implies_true, grd_t, grd_i, if_pos, if_neg, bI_i, bV_n, bx0, bx1, mh0, mh1, rd_s, rd_o, rd_j, rd_2, rdL_1, ↓reduceIte, Bool.false_eq_true, Bool.true_eq_false, Nat.add_eq, Nat.zero_add, Nat.add_zero, not_true_eq_false, not_false_eq_true]
    exact b2
  · simp (disch := omega) only [l0, l1, l2, l3, l4, l5, l6, l7, l8, l9, l10, l12, l20, l30, l31, l40, l99, l160, ite_self, nI_add, nI_leI, nI_ltI, nI_eq, nI_clamp, nI_sub', nI_mul, vpb_n, eq_self, implies_true, grd_t, grd_i, if_pos, if_neg, bI_i, bV_n, bx0, bx1, mh0, mh1, rd_s, rd_o, rd_j, rd_2, rdL_1, ↓reduceIte, Bool.false_eq_true, Bool.true_eq_false, Nat.add_eq, Nat.zero_add, Nat.add_zero, not_true_eq_false, not_false_eq_true]
    exact b3 i hi
  · simp (disch := omega) only [l0, l1, l2, l3, l4, l5, l6, l7, l8, l9, l10, l12, l20, l30, l31, l40, l99, l160, ite_self, nI_add, nI_leI, nI_ltI, nI_eq, nI_clamp, nI_sub', nI_mul, vpb_n, eq_self, implies_true, grd_t, grd_i, if_pos, if_neg, bI_i, bV_n, bx0, bx1, mh0, mh1, rd_s, rd_o, rd_j, rd_2, rdL_1, ↓reduceIte, Bool.false_eq_true, Bool.true_eq_false, Nat.add_eq, Nat.zero_add, Nat.add_zero, not_true_eq_false, not_false_eq_true]
    exact b4 p hp
  · simp (disch := omega) only [l0, l1, l2, l3, l4, l5, l6, l7, l8, l9, l10, l12, l20, l30, l31, l40, l99, l160, ite_self, nI_add, nI_leI, nI_ltI, nI_eq, nI_clamp, nI_sub', nI_mul, vpb_n, eq_self, implies_true, grd_t, grd_i, if_pos, if_neg, bI_i, bV_n, bx0, bx1, mh0, mh1, rd_s, rd_o, rd_j, rd_2, rdL_1, ↓reduceIte, Bool.false_eq_true, Bool.true_eq_false, Nat.add_eq, Nat.zero_add, Nat.add_zero, not_true_eq_false, not_false_eq_true]
    exact bl i hi
  · simp (disch := omega) only [l0, l1, l2, l3, l4, l5, l6, l7, l8, l9, l10, l12, l20, l30, l31, l40, l99, l160, ite_self, nI_add, nI_leI, nI_ltI, nI_eq, nI_clamp, nI_sub', nI_mul, vpb_n, eq_self, implies_true, grd_t, grd_i, if_pos, if_neg, bI_i, bV_n, bx0, bx1, mh0, mh1, rd_s, rd_o, rd_j, rd_2, rdL_1, ↓reduceIte, Bool.false_eq_true, Bool.true_eq_false, Nat.add_eq, Nat.zero_add, Nat.add_zero, not_true_eq_false, not_false_eq_true]
  · unfold pSH at p
    simp (disch := omega) only [l0, l1, l2, l3, l4, l5, l6, l7, l8, l9, l10, l12, l20, l30, l31, l40, l99, l160, ite_self, nI_add, nI_leI, nI_ltI, nI_eq, nI_clamp, nI_sub', nI_mul, vpb_n, eq_self, implies_true, grd_t, grd_i, if_pos, if_neg, bI_i, bV_n, bx0, bx1, mh0, mh1, rd_s, rd_o, rd_j, rd_2, rdL_1, ↓reduceIte, Bool.false_eq_true, Bool.true_eq_false, Nat.add_eq, Nat.zero_add, Nat.add_zero, not_true_eq_false, not_false_eq_true]
  · unfold pFR at p
    rw [rd_ite, rd_ite, if_neg (by omega), if_neg (by omega)]
  · unfold pTR at p
    rw [rd_ite, rd_ite, if_neg (by omega), if_neg (by omega)]
  · unfold pIM at p
    rw [rd_ite, rd_ite, if_neg (by omega), if_neg (by omega)]
  · rw [rd_o (by omega), rd_o (by omega)]
theorem sim_word (x1 : Int32) : SIM (fun w => f_X_word w x1) (fun w => f_M_word w x1) := by
  intro sc N w h
  have h0 := h
  obtain ⟨⟨n, L, K, A, F, M, S, g1, g2⟩, g3, g4, g5, g6⟩ := h0
  obtain ⟨rx, rm, ok, om, bl, sd⟩ := g1
  have hL := ok.2.1
  show EI (f_X_word w x1) _
  unfold f_X_word
  rcases tri x1 L (by omega) with hb | ⟨p, hp, rfl⟩
  · rw [plc_b rx.2.1 hb]
    simp (disch := omega) only [l0, l1, l2, l3, l4, l5, l6, l7, l8, l9, l10, l12, l20, l30, l31, l40, l99, l160, ite_self, nI_add, nI_leI, nI_ltI, nI_eq, nI_clamp, nI_sub', nI_mul, vpb_n, eq_self, implies_true, grd_t, grd_i, if_pos, if_neg, bI_i, bV_n, bx0, bx1, mh0, mh1, rd_s, rd_o, rd_j, rd_2, rdL_1, ↓reduceIte, Bool.false_eq_true, Bool.true_eq_false, Nat.add_eq, Nat.zero_add, Nat.add_zero, not_true_eq_false, not_false_eq_true]
    refine Ev.i ?_
    show EI (f_M_word (u_X_refuse w (-nI 5)) x1) _
    unfold f_M_word
    rw [wi_b (n := L) (by omega) (by rw [xr_o (by omega), rm.2.1]; rfl) hb]
    simp (disch := omega) only [l0, l1, l2, l3, l4, l5, l6, l7, l8, l9, l10, l12, l20, l30, l31, l40, l99, l160, ite_self, nI_add, nI_leI, nI_ltI, nI_eq, nI_clamp, nI_sub', nI_mul, vpb_n, eq_self, implies_true, grd_t, grd_i, if_pos, if_neg, bI_i, bV_n, bx0, bx1, mh0, mh1, rd_s, rd_o, rd_j, rd_2, rdL_1, ↓reduceIte, Bool.false_eq_true, Bool.true_eq_false, Nat.add_eq, Nat.zero_add, Nat.add_zero, not_true_eq_false, not_false_eq_true]
    exact Ev.i ⟨rfl, inv_ref h (by omega) (by omega)⟩
  · rw [plc_g rx.2.1 hp (by omega)]
    simp (disch := omega) only [l0, l1, l2, l3, l4, l5, l6, l7, l8, l9, l10, l12, l20, l30, l31, l40, l99, l160, ite_self, nI_add, nI_leI, nI_ltI, nI_eq, nI_clamp, nI_sub', nI_mul, vpb_n, eq_self, implies_true, grd_t, grd_i, if_pos, if_neg, bI_i, bV_n, bx0, bx1, mh0, mh1, rd_s, rd_o, rd_j, rd_2, rdL_1, ↓reduceIte, Bool.false_eq_true, Bool.true_eq_false, Nat.add_eq, Nat.zero_add, Nat.add_zero, not_true_eq_false, not_false_eq_true]
    refine Ev.i ?_
    show EI (f_M_word w (nI p)) _
    unfold f_M_word
    rw [wi_g (n := L) (by omega) (by rw [rm.2.1]; rfl) hp]
    simp (disch := omega) only [l0, l1, l2, l3, l4, l5, l6, l7, l8, l9, l10, l12, l20, l30, l31, l40, l99, l160, ite_self, nI_add, nI_leI, nI_ltI, nI_eq, nI_clamp, nI_sub', nI_mul, vpb_n, eq_self, implies_true, grd_t, grd_i, if_pos, if_neg, bI_i, bV_n, bx0, bx1, mh0, mh1, rd_s, rd_o, rd_j, rd_2, rdL_1, ↓reduceIte, Bool.false_eq_true, Bool.true_eq_false, Nat.add_eq, Nat.zero_add, Nat.add_zero, not_true_eq_false, not_false_eq_true]
    exact Ev.i ⟨(rm.2.2.2 p hp).trans (rx.2.2.2 p hp).symm, h⟩
theorem sim_belief (x1 : Int32) : SIM (fun w => f_X_belief w x1) (fun w => f_M_belief w x1) := by
  intro sc N w h
  have h0 := h
  obtain ⟨⟨n, L, K, A, F, M, S, g1, g2⟩, g3, g4, g5, g6⟩ := h0
  obtain ⟨rx, rm, ok, om, bl, sd⟩ := g1
  have hn := ok.1
  show EI (f_X_belief w x1) _
  unfold f_X_belief
  rcases tri x1 n (by omega) with hb | ⟨i, hi, rfl⟩
  · rw [man_b rx.1 hb]
    simp (disch := omega) only [l0, l1, l2, l3, l4, l5, l6, l7, l8, l9, l10, l12, l20, l30, l31, l40, l99, l160, ite_self, nI_add, nI_leI, nI_ltI, nI_eq, nI_clamp, nI_sub', nI_mul, vpb_n, eq_self, implies_true, grd_t, grd_i, if_pos, if_neg, bI_i, bV_n, bx0, bx1, mh0, mh1, rd_s, rd_o, rd_j, rd_2, rdL_1, ↓reduceIte, Bool.false_eq_true, Bool.true_eq_false, Nat.add_eq, Nat.zero_add, Nat.add_zero, not_true_eq_false, not_false_eq_true, u_refF]
    refine Ev.i ?_
    show EI (f_M_belief (u_X_refuse w (-nI 1)) x1) _
    unfold f_M_belief
    rw [mman_b (n := n) (by rw [xr_o (by omega), rm.1]) (by omega) hb]
    simp (disch := omega) only [l0, l1, l2, l3, l4, l5, l6, l7, l8, l9, l10, l12, l20, l30, l31, l40, l99, l160, ite_self, nI_add, nI_leI, nI_ltI, nI_eq, nI_clamp, nI_sub', nI_mul, vpb_n, eq_self, implies_true, grd_t, grd_i, if_pos, if_neg, bI_i, bV_n, bx0, bx1, mh0, mh1, rd_s, rd_o, rd_j, rd_2, rdL_1, ↓reduceIte, Bool.false_eq_true, Bool.true_eq_false, Nat.add_eq, Nat.zero_add, Nat.add_zero, not_true_eq_false, not_false_eq_true, u_no10]
    exact Ev.i ⟨rfl, inv_ref h (by omega) (by omega)⟩
  · rw [man_g rx.1 hi (by omega)]
    simp (disch := omega) only [l0, l1, l2, l3, l4, l5, l6, l7, l8, l9, l10, l12, l20, l30, l31, l40, l99, l160, ite_self, nI_add, nI_leI, nI_ltI, nI_eq, nI_clamp, nI_sub', nI_mul, vpb_n, eq_self, implies_true, grd_t, grd_i, if_pos, if_neg, bI_i, bV_n, bx0, bx1, mh0, mh1, rd_s, rd_o, rd_j, rd_2, rdL_1, ↓reduceIte, Bool.false_eq_true, Bool.true_eq_false, Nat.add_eq, Nat.zero_add, Nat.add_zero, not_true_eq_false, not_false_eq_true]
    refine Ev.i ?_
    show EI (f_M_belief w (nI i)) _
    unfold f_M_belief
    rw [mman_g (n := n) rm.1 (by omega) hi]
    simp (disch := omega) only [l0, l1, l2, l3, l4, l5, l6, l7, l8, l9, l10, l12, l20, l30, l31, l40, l99, l160, ite_self, nI_add, nI_leI, nI_ltI, nI_eq, nI_clamp, nI_sub', nI_mul, vpb_n, eq_self, implies_true, grd_t, grd_i, if_pos, if_neg, bI_i, bV_n, bx0, bx1, mh0, mh1, rd_s, rd_o, rd_j, rd_2, rdL_1, ↓reduceIte, Bool.false_eq_true, Bool.true_eq_false, Nat.add_eq, Nat.zero_add, Nat.add_zero, not_true_eq_false, not_false_eq_true]
    exact Ev.i ⟨(bl i hi).1.symm, h⟩
theorem inv_sh {sc : Nat → Int32} {N : Nat} {w w' : MW} (h : Inv sc N w) {s : Nat} (hs : s < 8) (a1 : ∀ a j, a ≠ 35 + 2 * s → ¬ (a = 63 ∧ j = s) → ¬ (a = 64 ∧ j = s) → w'.1 a j = w.1 a j)
    (a3 : ∀ a, a ≠ 35 + 2 * s + 1 → a ≠ 65 → w'.2.1 a = w.2.1 a) (a4 : ∀ i, (i < 160 * s ∨ 160 * s + 160 ≤ i) → w'.2.1 65 i = w.2.1 65 i) (a5 : w'.2.2 = w.2.2)
    (h' : ∀ n, w.1 62 3 = nI n → n ≤ 8 → SH w' n s) : Inv sc N w' := by
  obtain ⟨⟨n, L, K, A, F, M, S, g1, g2⟩, g3, g4, g5, g6⟩ := h
  refine ⟨⟨n, L, K, A, F, M, S, g1.ag (fun a j p => ?_), fun s' hs' => ?_⟩, g3.ag (fun a j p => ?_), g4.ag (fun a j p => ?_), g5.ag (fun a j p => ?_), g6.ag (fun a p => ?_) a5 (a1 62 10 (by omega) (by omega) (by omega)) (fun p => a1 72 p (by omega) (by omega) (by omega))⟩
  · unfold pCT at p
    exact a1 a j (by omega) (by omega) (by omega)
  · by_cases e : s' = s
    · subst e
      exact h' n g1.2.1.1 g1.2.2.1.1
    · have c0 : ∀ j, w'.1 (35 + 2 * s') j = w.1 (35 + 2 * s') j := fun j => a1 _ j (by omega) (by omega) (by omega)
      have c1 : w'.1 63 s' = w.1 63 s' := a1 _ _ (by omega) (by omega) (by omega)
      have c2 : w'.1 64 s' = w.1 64 s' := a1 _ _ (by omega) (by omega) (by omega)
      rcases g2 s' hs' with ⟨h1, h2, h3⟩ | ⟨m, h0, h1, h2, h3⟩ | ⟨t, len, h1, h2, h3, h4, h5, h6, h7⟩
      · exact .inl ⟨(c0 0).trans h1, c1.trans h2, (c0 1).trans h3⟩
      · exact .inr (.inl ⟨m, h0, (c0 0).trans h1, c1.trans h2, (c0 1).trans h3⟩)
      · refine .inr (.inr ⟨t, len, h1, h2, (c0 0).trans h3, c1.trans h4, (c0 1).trans h5, c2.trans h6, fun i hi => ?_⟩)
        rw [a3 _ (by omega) (by omega), a4 _ (by omega)]
        exact h7 i hi
  · unfold pFR at p
    exact a1 a j (by omega) (by omega) (by omega)
  · unfold pTR at p
    exact a1 a j (by omega) (by omega) (by omega)
  · unfold pIM at p
    exact a1 a j (by omega) (by omega) (by omega)
  · funext j
    exact a1 a j (by omega) (by omega) (by omega)
theorem nI_ne_m1 {m : Nat} (h : m < 2 ^ 31) : ¬ nI m = -nI 1 := fun e => by
  have h1 := nI_pos' (n := m) h
  rw [e] at h1
  exact absurd h1 (by decide)
theorem sim_show (x1 x2 : Int32) : SIM (fun w => f_X_show w x1 x2) (fun w => f_M_show w x1 x2) := by
  intro sc N w h
  have h0 := h
  obtain ⟨⟨n, L, K, A, F, M, S, g1, g2⟩, g3, g4, g5, g6⟩ := h0
  obtain ⟨rx, rm, ok, om, bl, sd⟩ := g1
  have hn := ok.1
  show EI (f_X_show w x1 x2) _
  unfold f_X_show
  rcases tri x1 8 (by omega) with hb | ⟨s, hs, rfl⟩
  · rw [isSh_b hb]
    simp (disch := omega) only [l0, l1, l2, l3, l4, l5, l6, l7, l8, l9, l10, l12, l20, l30, l31, l40, l99, l160, ite_self, nI_add, nI_leI, nI_ltI, nI_eq, nI_clamp, nI_sub', nI_mul, vpb_n, eq_self, implies_true, grd_t, grd_i, if_pos, if_neg, bI_i, bV_n, bx0, bx1, mh0, mh1, rd_s, rd_o, rd_j, rd_2, rdL_1, ↓reduceIte, Bool.false_eq_true, Bool.true_eq_false, Nat.add_eq, Nat.zero_add, Nat.add_zero, not_true_eq_false, not_false_eq_true]
    refine Ev.i ?_
    show EI (f_M_show (u_X_refuse w (-nI 1)) x1 x2) _
    unfold f_M_show
    rw [w7_b hb]
    simp (disch := omega) only [l0, l1, l2, l3, l4, l5, l6, l7, l8, l9, l10, l12, l20, l30, l31, l40, l99, l160, ite_self, nI_add, nI_leI, nI_ltI, nI_eq, nI_clamp, nI_sub', nI_mul, vpb_n, eq_self, implies_true, grd_t, grd_i, if_pos, if_neg, bI_i, bV_n, bx0, bx1, mh0, mh1, rd_s, rd_o, rd_j, rd_2, rdL_1, ↓reduceIte, Bool.false_eq_true, Bool.true_eq_false, Nat.add_eq, Nat.zero_add, Nat.add_zero, not_true_eq_false, not_false_eq_true]
    exact Ev.i ⟨rfl, inv_ref h (by omega) (by omega)⟩
  rw [isSh_g hs]
  by_cases e : x2 = -nI 1
  · subst e
    simp (disch := omega) only [l0, l1, l2, l3, l4, l5, l6, l7, l8, l9, l10, l12, l20, l30, l31, l40, l99, l160, ite_self, nI_add, nI_leI, nI_ltI, nI_eq, nI_clamp, nI_sub', nI_mul, vpb_n, eq_self, implies_true, grd_t, grd_i, if_pos, if_neg, bI_i, bV_n, bx0, bx1, mh0, mh1, rd_s, rd_o, rd_j, rd_2, rdL_1, ↓reduceIte, Bool.false_eq_true, Bool.true_eq_false, Nat.add_eq, Nat.zero_add, Nat.add_zero, not_true_eq_false, not_false_eq_true]
    refine Ev.i ?_
    unfold u_Sh_takeNothing
    show EI (f_M_show _ (nI s) (-1)) _
    unfold f_M_show
    rw [w7_g hs]
    simp (disch := omega) only [l0, l1, l2, l3, l4, l5, l6, l7, l8, l9, l10, l12, l20, l30, l31, l40, l99, l160, ite_self, nI_add, nI_leI, nI_ltI, nI_eq, nI_clamp, nI_sub', nI_mul, vpb_n, eq_self, implies_true, grd_t, grd_i, if_pos, if_neg, bI_i, bV_n, bx0, bx1, mh0, mh1, rd_s, rd_o, rd_j, rd_2, rdL_1, ↓reduceIte, Bool.false_eq_true, Bool.true_eq_false, Nat.add_eq, Nat.zero_add, Nat.add_zero, not_true_eq_false, not_false_eq_true]
    refine Ev.i ⟨rfl, inv_sh h hs (fun a j q1 q2 q3 => ?_) (fun a q1 q2 => rfl) (fun i q => rfl) rfl (fun n' q1 q2 => .inl ⟨?_, ?_, ?_⟩)⟩
    · rw [rd_ite, if_neg (by omega), rd_o q1, rd_o q1]
    · simp (disch := omega) only [l0, l1, l2, l3, l4, l5, l6, l7, l8, l9, l10, l12, l20, l30, l31, l40, l99, l160, ite_self, nI_add, nI_leI, nI_ltI, nI_eq, nI_clamp, nI_sub', nI_mul, vpb_n, eq_self, implies_true, grd_t, grd_i, if_pos, if_neg, bI_i, bV_n, bx0, bx1, mh0, mh1, rd_s, rd_o, rd_j, rd_2, rdL_1, ↓reduceIte, Bool.false_eq_true, Bool.true_eq_false, Nat.add_eq, Nat.zero_add, Nat.add_zero, not_true_eq_false, not_false_eq_true]
    · simp (disch := omega) only [l0, l1, l2, l3, l4, l5, l6, l7, l8, l9, l10, l12, l20, l30, l31, l40, l99, l160, ite_self, nI_add, nI_leI, nI_ltI, nI_eq, nI_clamp, nI_sub', nI_mul, vpb_n, eq_self, implies_true, grd_t, grd_i, if_pos, if_neg, bI_i, bV_n, bx0, bx1, mh0, mh1, rd_s, rd_o, rd_j, rd_2, rdL_1, ↓reduceIte, Bool.false_eq_true, Bool.true_eq_false, Nat.add_eq, Nat.zero_add, Nat.add_zero, not_true_eq_false, not_false_eq_true]
    · simp (disch := omega) only [l0, l1, l2, l3, l4, l5, l6, l7, l8, l9, l10, l12, l20, l30, l31, l40, l99, l160, ite_self, nI_add, nI_leI, nI_ltI, nI_eq, nI_clamp, nI_sub', nI_mul, vpb_n, eq_self, implies_true, grd_t, grd_i, if_pos, if_neg, bI_i, bV_n, bx0, bx1, mh0, mh1, rd_s, rd_o, rd_j, rd_2, rdL_1, ↓reduceIte, Bool.false_eq_true, Bool.true_eq_false, Nat.add_eq, Nat.zero_add, Nat.add_zero, not_true_eq_false, not_false_eq_true]
  · rcases tri x2 n (by omega) with hb | ⟨m, hm, rfl⟩
    · rw [man_b rx.1 hb]
      have e' : ¬ x2 = -1 := e
      rw [if_neg e']
      simp (disch := omega) only [l0, l1, l2, l3, l4, l5, l6, l7, l8, l9, l10, l12, l20, l30, l31, l40, l99, l160, ite_self, nI_add, nI_leI, nI_ltI, nI_eq, nI_clamp, nI_sub', nI_mul, vpb_n, eq_self, implies_true, grd_t, grd_i, if_pos, if_neg, bI_i, bV_n, bx0, bx1, mh0, mh1, rd_s, rd_o, rd_j, rd_2, rdL_1, ↓reduceIte, Bool.false_eq_true, Bool.true_eq_false, Nat.add_eq, Nat.zero_add, Nat.add_zero, not_true_eq_false, not_false_eq_true]
      refine Ev.i ?_
      show EI (f_M_show (u_X_refuse w (-nI 1)) (nI s) x2) _
      unfold f_M_show
      rw [w7_g hs, mman_b (n := n) (by rw [xr_o (by omega), rm.1]) (by omega) hb, if_neg e']
      simp (disch := omega) only [l0, l1, l2, l3, l4, l5, l6, l7, l8, l9, l10, l12, l20, l30, l31, l40, l99, l160, ite_self, nI_add, nI_leI, nI_ltI, nI_eq, nI_clamp, nI_sub', nI_mul, vpb_n, eq_self, implies_true, grd_t, grd_i, if_pos, if_neg, bI_i, bV_n, bx0, bx1, mh0, mh1, rd_s, rd_o, rd_j, rd_2, rdL_1, ↓reduceIte, Bool.false_eq_true, Bool.true_eq_false, Nat.add_eq, Nat.zero_add, Nat.add_zero, not_true_eq_false, not_false_eq_true]
      exact Ev.i ⟨rfl, inv_ref h (by omega) (by omega)⟩
    · rw [man_g rx.1 hm (by omega)]
      have e' := nI_ne_m1 (m := m) (by omega)
      simp (disch := omega) only [l0, l1, l2, l3, l4, l5, l6, l7, l8, l9, l10, l12, l20, l30, l31, l40, l99, l160, ite_self, nI_add, nI_leI, nI_ltI, nI_eq, nI_clamp, nI_sub', nI_mul, vpb_n, eq_self, implies_true, grd_t, grd_i, if_pos, if_neg, bI_i, bV_n, bx0, bx1, mh0, mh1, rd_s, rd_o, rd_j, rd_2, rdL_1, ↓reduceIte, Bool.false_eq_true, Bool.true_eq_false, Nat.add_eq, Nat.zero_add, Nat.add_zero, not_true_eq_false, not_false_eq_true, e']
      refine Ev.i ?_
      unfold u_Sh_takeMan
      show EI (f_M_show _ (nI s) (nI m)) _
      unfold f_M_show
      rw [w7_g hs, mman_g (n := n) (by rw [rd_o (by omega), rd_o (by omega), rm.1]) (by omega) hm]
      simp (disch := omega) only [l0, l1, l2, l3, l4, l5, l6, l7, l8, l9, l10, l12, l20, l30, l31, l40, l99, l160, ite_self, nI_add, nI_leI, nI_ltI, nI_eq, nI_clamp, nI_sub', nI_mul, vpb_n, eq_self, implies_true, grd_t, grd_i, if_pos, if_neg, bI_i, bV_n, bx0, bx1, mh0, mh1, rd_s, rd_o, rd_j, rd_2, rdL_1, ↓reduceIte, Bool.false_eq_true, Bool.true_eq_false, Nat.add_eq, Nat.zero_add, Nat.add_zero, not_true_eq_false, not_false_eq_true, e']
      refine Ev.i ⟨rfl, inv_sh h hs (fun a j q1 q2 q3 => ?_) (fun a q1 q2 => rfl) (fun i q => rfl) rfl (fun n' q1 q2 => .inr (.inl ⟨m, ?_, ?_, ?_, ?_⟩))⟩
      · rw [rd_ite, if_neg (by omega), rd_o q1, rd_o q1]
      · rw [rm.1] at q1
        have := (nI_eq (by omega) (by omega)).mp q1
        omega
      · simp (disch := omega) only [l0, l1, l2, l3, l4, l5, l6, l7, l8, l9, l10, l12, l20, l30, l31, l40, l99, l160, ite_self, nI_add, nI_leI, nI_ltI, nI_eq, nI_clamp, nI_sub', nI_mul, vpb_n, eq_self, implies_true, grd_t, grd_i, if_pos, if_neg, bI_i, bV_n, bx0, bx1, mh0, mh1, rd_s, rd_o, rd_j, rd_2, rdL_1, ↓reduceIte, Bool.false_eq_true, Bool.true_eq_false, Nat.add_eq, Nat.zero_add, Nat.add_zero, not_true_eq_false, not_false_eq_true]
      · simp (disch := omega) only [l0, l1, l2, l3, l4, l5, l6, l7, l8, l9, l10, l12, l20, l30, l31, l40, l99, l160, ite_self, nI_add, nI_leI, nI_ltI, nI_eq, nI_clamp, nI_sub', nI_mul, vpb_n, eq_self, implies_true, grd_t, grd_i, if_pos, if_neg, bI_i, bV_n, bx0, bx1, mh0, mh1, rd_s, rd_o, rd_j, rd_2, rdL_1, ↓reduceIte, Bool.false_eq_true, Bool.true_eq_false, Nat.add_eq, Nat.zero_add, Nat.add_zero, not_true_eq_false, not_false_eq_true]
      · simp (disch := omega) only [l0, l1, l2, l3, l4, l5, l6, l7, l8, l9, l10, l12, l20, l30, l31, l40, l99, l160, ite_self, nI_add, nI_leI, nI_ltI, nI_eq, nI_clamp, nI_sub', nI_mul, vpb_n, eq_self, implies_true, grd_t, grd_i, if_pos, if_neg, bI_i, bV_n, bx0, bx1, mh0, mh1, rd_s, rd_o, rd_j, rd_2, rdL_1, ↓reduceIte, Bool.false_eq_true, Bool.true_eq_false, Nat.add_eq, Nat.zero_add, Nat.add_zero, not_true_eq_false, not_false_eq_true]
