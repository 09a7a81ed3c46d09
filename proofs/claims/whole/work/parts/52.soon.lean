/-! soon -/
def soonF (n : Nat) (M S : Nat → Int32) (L man : Nat) : Nat → Nat → (Nat → Int32) → Int32
  | 0, _, _ => -nI 1
  | m + 1, r, k => if senV S L (k man) = whV S L then nI r else soonF n M S L man m (r + 1) (ridV n M k)
def soonV (n : Nat) (M S : Nat → Int32) (L : Nat) (H : Nat → Int32) (man : Nat) : Int32 := if whV S L = -nI 1 then -nI 1 else soonF n M S L man 10 0 H
theorem X_rounds {w : MW} {n L : Nat} {K A F : Nat → Nat} {M S k M' : Nat → Int32} (rx : RX 1 w n L K A F M S) (ok : OK n L K A F) (kx : KnX w n k M') {i : Nat} (hi : i < n) :
    EI (f_Co_roundsUntilWhole w 1 (nI i)) (fun v w' => v = soonV n M' S L k i ∧ FX w w') := by
  have hn := ok.1
  have hL := ok.2.1
  unfold f_Co_roundsUntilWhole soonV
  rw [X_wholeSense rx (.inl rfl) hL]
  simp only [bI_k]
  rw [man_g rx.1 hi (by omega)]
  simp (disch := omega) only [k0, k1, k2, k3, k4, k5, k6, k7, k8, k9, k10, k12, k20, k30, k31, k40, k99, k160, ite_self, nI_add, nI_leI, nI_ltI, nI_eq, nI_clamp, nI_sub', nI_mul, vpb_n, eq_self, implies_true, grd_t, grd_i, if_pos, if_neg, bI_k, bV_k, bx0, bx1, mh0, mh1, rd_s, rd_o, rd_j, rd_2k, rdL_1k, ↓reduceIte, Bool.false_eq_true, Bool.true_eq_false, Nat.add_eq, Nat.zero_add, Nat.add_zero, not_true_eq_false, not_false_eq_true]
  by_cases hw : whV S L = -nI 1
  · simp (disch := omega) only [k0, k1, k2, k3, k4, k5, k6, k7, k8, k9, k10, k12, k20, k30, k31, k40, k99, k160, ite_self, nI_add, nI_leI, nI_ltI, nI_eq, nI_clamp, nI_sub', nI_mul, vpb_n, eq_self, implies_true, grd_t, grd_i, if_pos, if_neg, bI_k, bV_k, bx0, bx1, mh0, mh1, rd_s, rd_o, rd_j, rd_2k, rdL_1k, ↓reduceIte, Bool.false_eq_true, Bool.true_eq_false, Nat.add_eq, Nat.zero_add, Nat.add_zero, not_true_eq_false, not_false_eq_true, hw]
    exact Ev.i ⟨rfl, FX.rfl w⟩
  simp (disch := omega) only [k0, k1, k2, k3, k4, k5, k6, k7, k8, k9, k10, k12, k20, k30, k31, k40, k99, k160, ite_self, nI_add, nI_leI, nI_ltI, nI_eq, nI_clamp, nI_sub', nI_mul, vpb_n, eq_self, implies_true, grd_t, grd_i, if_pos, if_neg, bI_k, bV_k, bx0, bx1, mh0, mh1, rd_s, rd_o, rd_j, rd_2k, rdL_1k, ↓reduceIte, Bool.false_eq_true, Bool.true_eq_false, Nat.add_eq, Nat.zero_add, Nat.add_zero, not_true_eq_false, not_false_eq_true, hw]
  refine lp (σ := MW) (F := fun m w' r => f_Co_roundsUntilWhole_23 1 m w' (nI i) (whV S L) (nI r)) (fun w' r => FX w w' ∧ ∃ k', KnX w' n k' M' ∧ soonF n M' S L i (10 - r) r k' = soonF n M' S L i 10 0 k) 10 0 w ⟨FX.rfl w, k, kx, rfl⟩ (by omega) (by omega) ?_ ?_
  · intro m w' hj
    obtain ⟨j1, k', j2, j3⟩ := hj
    show Ev (f_Co_roundsUntilWhole_23 1 (m + 1) w' (nI i) (whV S L) (nI 10)) _
    rw [f_Co_roundsUntilWhole_23]
    simp (disch := omega) only [k0, k1, k2, k3, k4, k5, k6, k7, k8, k9, k10, k12, k20, k30, k31, k40, k99, k160, ite_self, nI_add, nI_leI, nI_ltI, nI_eq, nI_clamp, nI_sub', nI_mul, vpb_n, eq_self, implies_true, grd_t, grd_i, if_pos, if_neg, bI_k, bV_k, bx0, bx1, mh0, mh1, rd_s, rd_o, rd_j, rd_2k, rdL_1k, ↓reduceIte, Bool.false_eq_true, Bool.true_eq_false, Nat.add_eq, Nat.zero_add, Nat.add_zero, not_true_eq_false, not_false_eq_true]
    exact Ev.i ⟨j3, j1⟩
  · intro m w' r _ hr hinv kk
    obtain ⟨j1, k', j2, j3⟩ := hinv
    have rx1 := rx.fx hn (by omega) j1
    have e1 := (j2.2 i hi).1
    show Ev (f_Co_roundsUntilWhole_23 1 (m + 1) w' (nI i) (whV S L) (nI r)) _
    rw [f_Co_roundsUntilWhole_23, nI_clamp (by omega), e1, X_senseOf rx1 (.inl rfl) hL]
    rw [show 10 - r = (10 - (r + 1)) + 1 by omega, soonF] at j3
    by_cases hq : senV S L (k' i) = whV S L
    · rw [if_pos hq] at j3
      simp (disch := omega) only [k0, k1, k2, k3, k4, k5, k6, k7, k8, k9, k10, k12, k20, k30, k31, k40, k99, k160, ite_self, nI_add, nI_leI, nI_ltI, nI_eq, nI_clamp, nI_sub', nI_mul, vpb_n, eq_self, implies_true, grd_t, grd_i, if_pos, if_neg, bI_k, bV_k, bx0, bx1, mh0, mh1, rd_s, rd_o, rd_j, rd_2k, rdL_1k, ↓reduceIte, Bool.false_eq_true, Bool.true_eq_false, Nat.add_eq, Nat.zero_add, Nat.add_zero, not_true_eq_false, not_false_eq_true, hq]
      exact Ev.i ⟨j3, j1⟩
    · rw [if_neg hq] at j3
      simp (disch := omega) only [k0, k1, k2, k3, k4, k5, k6, k7, k8, k9, k10, k12, k20, k30, k31, k40, k99, k160, ite_self, nI_add, nI_leI, nI_ltI, nI_eq, nI_clamp, nI_sub', nI_mul, vpb_n, eq_self, implies_true, grd_t, grd_i, if_pos, if_neg, bI_k, bV_k, bx0, bx1, mh0, mh1, rd_s, rd_o, rd_j, rd_2k, rdL_1k, ↓reduceIte, Bool.false_eq_true, Bool.true_eq_false, Nat.add_eq, Nat.zero_add, Nat.add_zero, not_true_eq_false, not_false_eq_true, hq]
      refine Ev.bV (X_rideOnce hn j2) (fun w2 h2 => ?_)
      exact kk w2 ⟨j1.tr h2.1, _, h2.2, j3⟩
theorem M_soonOf {w : MW} {n L : Nat} {K A F : Nat → Nat} {M S : Nat → Int32} (rm : RM w n L K A F M S) (ok : OK n L K A F) {i : Nat} (hi : i < n) :
    EI (f_M_soonOf w (nI i)) (fun v w' => v = soonV n M S L (hs K A F L) i ∧ FM w w') := by
  have hn := ok.1
  have hL := ok.2.1
  unfold f_M_soonOf soonV
  rw [M_wholeOf rm hL]
  simp (disch := omega) only [k0, k1, k2, k3, k4, k5, k6, k7, k8, k9, k10, k12, k20, k30, k31, k40, k99, k160, ite_self, nI_add, nI_leI, nI_ltI, nI_eq, nI_clamp, nI_sub', nI_mul, vpb_n, eq_self, implies_true, grd_t, grd_i, if_pos, if_neg, bI_k, bV_k, bx0, bx1, mh0, mh1, rd_s, rd_o, rd_j, rd_2k, rdL_1k, ↓reduceIte, Bool.false_eq_true, Bool.true_eq_false, Nat.add_eq, Nat.zero_add, Nat.add_zero, not_true_eq_false, not_false_eq_true]
  by_cases hw : whV S L = -nI 1
  · simp (disch := omega) only [k0, k1, k2, k3, k4, k5, k6, k7, k8, k9, k10, k12, k20, k30, k31, k40, k99, k160, ite_self, nI_add, nI_leI, nI_ltI, nI_eq, nI_clamp, nI_sub', nI_mul, vpb_n, eq_self, implies_true, grd_t, grd_i, if_pos, if_neg, bI_k, bV_k, bx0, bx1, mh0, mh1, rd_s, rd_o, rd_j, rd_2k, rdL_1k, ↓reduceIte, Bool.false_eq_true, Bool.true_eq_false, Nat.add_eq, Nat.zero_add, Nat.add_zero, not_true_eq_false, not_false_eq_true, hw]
    exact Ev.i ⟨rfl, FM.rfl w⟩
  simp (disch := omega) only [k0, k1, k2, k3, k4, k5, k6, k7, k8, k9, k10, k12, k20, k30, k31, k40, k99, k160, ite_self, nI_add, nI_leI, nI_ltI, nI_eq, nI_clamp, nI_sub', nI_mul, vpb_n, eq_self, implies_true, grd_t, grd_i, if_pos, if_neg, bI_k, bV_k, bx0, bx1, mh0, mh1, rd_s, rd_o, rd_j, rd_2k, rdL_1k, ↓reduceIte, Bool.false_eq_true, Bool.true_eq_false, Nat.add_eq, Nat.zero_add, Nat.add_zero, not_true_eq_false, not_false_eq_true, hw]
  refine Ev.bV (M_goOn rm ok (r := 0) (by omega)) (fun w1 h1 => ?_)
  refine lp (σ := MW) (F := fun m w' r => f_M_soonOf_19 m w' (nI i) (whV S L) (nI r)) (fun w' r => FM w w' ∧ ∃ k', (∀ j, j < n → w'.1 77 j = k' j) ∧ soonF n M S L i (10 - r) r k' = soonF n M S L i 10 0 (hs K A F L)) 10 0 w1 ⟨h1.1, _, h1.2, rfl⟩ (by omega) (by omega) ?_ ?_
  · intro m w' hj
    obtain ⟨j1, k', j2, j3⟩ := hj
    show Ev (f_M_soonOf_19 (m + 1) w' (nI i) (whV S L) (nI 10)) _
    rw [f_M_soonOf_19]
    simp (disch := omega) only [k0, k1, k2, k3, k4, k5, k6, k7, k8, k9, k10, k12, k20, k30, k31, k40, k99, k160, ite_self, nI_add, nI_leI, nI_ltI, nI_eq, nI_clamp, nI_sub', nI_mul, vpb_n, eq_self, implies_true, grd_t, grd_i, if_pos, if_neg, bI_k, bV_k, bx0, bx1, mh0, mh1, rd_s, rd_o, rd_j, rd_2k, rdL_1k, ↓reduceIte, Bool.false_eq_true, Bool.true_eq_false, Nat.add_eq, Nat.zero_add, Nat.add_zero, not_true_eq_false, not_false_eq_true]
    exact Ev.i ⟨j3, j1⟩
  · intro m w' r _ hr hinv kk
    obtain ⟨j1, k', j2, j3⟩ := hinv
    have rm1 := rm.fm j1
    have e1 := j2 i hi
    show Ev (f_M_soonOf_19 (m + 1) w' (nI i) (whV S L) (nI r)) _
    rw [f_M_soonOf_19, nI_clamp (by omega), e1, M_senseOf rm1 hL]
    rw [show 10 - r = (10 - (r + 1)) + 1 by omega, soonF] at j3
    by_cases hq : senV S L (k' i) = whV S L
    · rw [if_pos hq] at j3
      simp (disch := omega) only [k0, k1, k2, k3, k4, k5, k6, k7, k8, k9, k10, k12, k20, k30, k31, k40, k99, k160, ite_self, nI_add, nI_leI, nI_ltI, nI_eq, nI_clamp, nI_sub', nI_mul, vpb_n, eq_self, implies_true, grd_t, grd_i, if_pos, if_neg, bI_k, bV_k, bx0, bx1, mh0, mh1, rd_s, rd_o, rd_j, rd_2k, rdL_1k, ↓reduceIte, Bool.false_eq_true, Bool.true_eq_false, Nat.add_eq, Nat.zero_add, Nat.add_zero, not_true_eq_false, not_false_eq_true, hq]
      exact Ev.i ⟨j3, j1⟩
    · rw [if_neg hq] at j3
      simp (disch := omega) only [k0, k1, k2, k3, k4, k5, k6, k7, k8, k9, k10, k12, k20, k30, k31, k40, k99, k160, ite_self, nI_add, nI_leI, nI_ltI, nI_eq, nI_clamp, nI_sub', nI_mul, vpb_n, eq_self, implies_true, grd_t, grd_i, if_pos, if_neg, bI_k, bV_k, bx0, bx1, mh0, mh1, rd_s, rd_o, rd_j, rd_2k, rdL_1k, ↓reduceIte, Bool.false_eq_true, Bool.true_eq_false, Nat.add_eq, Nat.zero_add, Nat.add_zero, not_true_eq_false, not_false_eq_true, hq]
      refine Ev.bV (M_round rm1 hn j2) (fun w2 h2 => ?_)
      exact kk w2 ⟨j1.tr h2.1, _, h2.2, j3⟩
theorem sim_soon (x1 : Int32) : SIM (fun w => f_X_soon w x1) (fun w => f_M_soon w x1) := by
  intro sc N w h
  have h0 := h
  obtain ⟨⟨n, L, K, A, F, M, S, g1, g2⟩, g3, g4, g5, g6⟩ := h0
  have hn := g1.2.2.1.1
  have ok := g1.2.2.1
  show EI (f_X_soon w x1) _
  unfold f_X_soon
  rcases tri x1 n (by omega) with hb | ⟨i, hi, rfl⟩
  · rw [man_b g1.1.1 hb]
    simp (disch := omega) only [k0, k1, k2, k3, k4, k5, k6, k7, k8, k9, k10, k12, k20, k30, k31, k40, k99, k160, ite_self, nI_add, nI_leI, nI_ltI, nI_eq, nI_clamp, nI_sub', nI_mul, vpb_n, eq_self, implies_true, grd_t, grd_i, if_pos, if_neg, bI_k, bV_k, bx0, bx1, mh0, mh1, rd_s, rd_o, rd_j, rd_2k, rdL_1k, ↓reduceIte, Bool.false_eq_true, Bool.true_eq_false, Nat.add_eq, Nat.zero_add, Nat.add_zero, not_true_eq_false, not_false_eq_true, u_refF]
    refine Ev.i ?_
    show EI (f_M_soon (u_X_refuse w (-nI 1)) x1) _
    unfold f_M_soon
    rw [mman_b (n := n) (by rw [xr_o (by omega), g1.2.1.1]) (by omega) hb]
    simp (disch := omega) only [k0, k1, k2, k3, k4, k5, k6, k7, k8, k9, k10, k12, k20, k30, k31, k40, k99, k160, ite_self, nI_add, nI_leI, nI_ltI, nI_eq, nI_clamp, nI_sub', nI_mul, vpb_n, eq_self, implies_true, grd_t, grd_i, if_pos, if_neg, bI_k, bV_k, bx0, bx1, mh0, mh1, rd_s, rd_o, rd_j, rd_2k, rdL_1k, ↓reduceIte, Bool.false_eq_true, Bool.true_eq_false, Nat.add_eq, Nat.zero_add, Nat.add_zero, not_true_eq_false, not_false_eq_true, u_no10]
    exact Ev.i ⟨rfl, inv_ref h (by omega) (by omega)⟩
  rw [man_g g1.1.1 hi (by omega)]
  simp (disch := omega) only [k0, k1, k2, k3, k4, k5, k6, k7, k8, k9, k10, k12, k20, k30, k31, k40, k99, k160, ite_self, nI_add, nI_leI, nI_ltI, nI_eq, nI_clamp, nI_sub', nI_mul, vpb_n, eq_self, implies_true, grd_t, grd_i, if_pos, if_neg, bI_k, bV_k, bx0, bx1, mh0, mh1, rd_s, rd_o, rd_j, rd_2k, rdL_1k, ↓reduceIte, Bool.false_eq_true, Bool.true_eq_false, Nat.add_eq, Nat.zero_add, Nat.add_zero, not_true_eq_false, not_false_eq_true]
  refine Ev.bV (X_begin g1.1 (by omega) ok) (fun w1 h1 => ?_)
  have ga := g1.fq h1.1.q
  refine Ev.bI (X_rounds ga.1 ok h1.2 hi) (fun v w2 h2 => ?_)
  obtain ⟨rfl, f2⟩ := h2
  have gb := ga.fq f2.q
  refine Ev.i ?_
  show EI (f_M_soon w2 (nI i)) _
  unfold f_M_soon
  rw [mman_g (n := n) gb.2.1.1 (by omega) hi]
  simp (disch := omega) only [k0, k1, k2, k3, k4, k5, k6, k7, k8, k9, k10, k12, k20, k30, k31, k40, k99, k160, ite_self, nI_add, nI_leI, nI_ltI, nI_eq, nI_clamp, nI_sub', nI_mul, vpb_n, eq_self, implies_true, grd_t, grd_i, if_pos, if_neg, bI_k, bV_k, bx0, bx1, mh0, mh1, rd_s, rd_o, rd_j, rd_2k, rdL_1k, ↓reduceIte, Bool.false_eq_true, Bool.true_eq_false, Nat.add_eq, Nat.zero_add, Nat.add_zero, not_true_eq_false, not_false_eq_true]
  refine Ev.bI (M_soonOf gb.2.1 ok hi) (fun v w3 h3 => ?_)
  obtain ⟨rfl, f3⟩ := h3
  exact Ev.i ⟨rfl, h.fq ((h1.1.q.tr f2.q).tr f3.q')⟩
