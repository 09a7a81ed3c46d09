/-! wrongOnes -/
def falF (S : Nat → Int32) (L : Nat) (k : Nat → Int32) : Nat → Nat → Int32 → Int32
  | 0, _, b => b
  | m + 1, i, b => falF S L k m (i + 1) (if senV S L (k i) = -nI 1 then b else if senV S L (k i) = whV S L then b else b ||| nI 1 <<< (nI i &&& nI 31))
theorem falF_s {S : Nat → Int32} {L n i : Nat} {k : Nat → Int32} {b : Int32} (h : i < n) : falF S L k (n - i) i b = falF S L k (n - (i + 1)) (i + 1) (if senV S L (k i) = -nI 1 then b else if senV S L (k i) = whV S L then b else b ||| nI 1 <<< (nI i &&& nI 31)) := by
  rw [show n - i = (n - (i + 1)) + 1 by omega]
  rfl
theorem sim_wrongOnes (x1 : Int32) : SIM (fun w => f_X_wrongOnes w x1) (fun w => f_M_wrongOnes w x1) := by
  intro sc N w h
  have h0 := h
  obtain ⟨⟨n, L, K, A, F, M, S, g1, g2⟩, g3, g4, g5, g6⟩ := h0
  have hn := g1.2.2.1.1
  have hL := g1.2.2.1.2.1
  have ok := g1.2.2.1
  show EI (f_X_wrongOnes w x1) _
  unfold f_X_wrongOnes
  rcases tri x1 10 (by omega) with hb | ⟨r, hr, rfl⟩
  · rw [isRo_b hb]
    simp (disch := omega) only [k0, k1, k2, k3, k4, k5, k6, k7, k8, k9, k10, k12, k20, k30, k31, k40, k99, k160, ite_self, nI_add, nI_leI, nI_ltI, nI_eq, nI_clamp, nI_sub', nI_mul, vpb_n, eq_self, implies_true, grd_t, grd_i, if_pos, if_neg, bI_k, bV_k, bx0, bx1, mh0, mh1, rd_s, rd_o, rd_j, rd_2k, rdL_1k, ↓reduceIte, Bool.false_eq_true, Bool.true_eq_false, Nat.add_eq, Nat.zero_add, Nat.add_zero, not_true_eq_false, not_false_eq_true]
    refine Ev.i ?_
    show EI (f_M_wrongOnes (u_X_refuse w (-nI 6)) x1) _
    unfold f_M_wrongOnes
    rw [mro_b hb]
    simp (disch := omega) only [k0, k1, k2, k3, k4, k5, k6, k7, k8, k9, k10, k12, k20, k30, k31, k40, k99, k160, ite_self, nI_add, nI_leI, nI_ltI, nI_eq, nI_clamp, nI_sub', nI_mul, vpb_n, eq_self, implies_true, grd_t, grd_i, if_pos, if_neg, bI_k, bV_k, bx0, bx1, mh0, mh1, rd_s, rd_o, rd_j, rd_2k, rdL_1k, ↓reduceIte, Bool.false_eq_true, Bool.true_eq_false, Nat.add_eq, Nat.zero_add, Nat.add_zero, not_true_eq_false, not_false_eq_true]
    exact Ev.i ⟨rfl, inv_ref h (by omega) (by omega)⟩
  rw [isRo_g hr]
  simp (disch := omega) only [k0, k1, k2, k3, k4, k5, k6, k7, k8, k9, k10, k12, k20, k30, k31, k40, k99, k160, ite_self, nI_add, nI_leI, nI_ltI, nI_eq, nI_clamp, nI_sub', nI_mul, vpb_n, eq_self, implies_true, grd_t, grd_i, if_pos, if_neg, bI_k, bV_k, bx0, bx1, mh0, mh1, rd_s, rd_o, rd_j, rd_2k, rdL_1k, ↓reduceIte, Bool.false_eq_true, Bool.true_eq_false, Nat.add_eq, Nat.zero_add, Nat.add_zero, not_true_eq_false, not_false_eq_true]
  refine Ev.bV (X_begin g1.1 (by omega) ok) (fun w1 h1 => ?_)
  refine Ev.bV (X_ride hn (by omega) h1.2) (fun w2 h2 => ?_)
  have f2 := h1.1.tr h2.1
  have gb := g1.fq f2.q
  refine Ev.bI (P := fun v w' => v = falF S L (rideN n M r (hs K A F L)) n 0 (nI 0) ∧ w' = w2) ?_ (fun v w3 h3 => ?_)
  · unfold f_Co_falseOnes
    rw [X_wholeSense gb.1 (.inl rfl) hL]
    simp (disch := omega) only [k0, k1, k2, k3, k4, k5, k6, k7, k8, k9, k10, k12, k20, k30, k31, k40, k99, k160, ite_self, nI_add, nI_leI, nI_ltI, nI_eq, nI_clamp, nI_sub', nI_mul, vpb_n, eq_self, implies_true, grd_t, grd_i, if_pos, if_neg, bI_k, bV_k, bx0, bx1, mh0, mh1, rd_s, rd_o, rd_j, rd_2k, rdL_1k, ↓reduceIte, Bool.false_eq_true, Bool.true_eq_false, Nat.add_eq, Nat.zero_add, Nat.add_zero, not_true_eq_false, not_false_eq_true]
    refine lp (σ := Int32) (F := fun m b i => f_Co_falseOnes_10 1 m w2 (whV S L) b (nI i)) (fun b i => falF S L (rideN n M r (hs K A F L)) (n - i) i b = falF S L (rideN n M r (hs K A F L)) n 0 (nI 0)) n 0 (nI 0) (by rw [Nat.sub_zero]) (by omega) (by omega) ?_ ?_
    · intro m b hi
      show Ev (f_Co_falseOnes_10 1 (m + 1) w2 (whV S L) b (nI n)) _
      rw [f_Co_falseOnes_10, h2.2.1]
      simp (disch := omega) only [k0, k1, k2, k3, k4, k5, k6, k7, k8, k9, k10, k12, k20, k30, k31, k40, k99, k160, ite_self, nI_add, nI_leI, nI_ltI, nI_eq, nI_clamp, nI_sub', nI_mul, vpb_n, eq_self, implies_true, grd_t, grd_i, if_pos, if_neg, bI_k, bV_k, bx0, bx1, mh0, mh1, rd_s, rd_o, rd_j, rd_2k, rdL_1k, ↓reduceIte, Bool.false_eq_true, Bool.true_eq_false, Nat.add_eq, Nat.zero_add, Nat.add_zero, not_true_eq_false, not_false_eq_true]
      rw [Nat.sub_self] at hi
      exact Ev.i ⟨hi, rfl⟩
    · intro m b i _ hi hinv kk
      rw [falF_s hi] at hinv
      show Ev (f_Co_falseOnes_10 1 (m + 1) w2 (whV S L) b (nI i)) _
      rw [f_Co_falseOnes_10, h2.2.1, nI_clamp (by omega), (h2.2.2 i hi).1, X_senseOf gb.1 (.inl rfl) hL]
      by_cases q1 : senV S L (rideN n M r (hs K A F L) i) = -nI 1
      · rw [if_pos q1] at hinv
        simp (disch := omega) only [k0, k1, k2, k3, k4, k5, k6, k7, k8, k9, k10, k12, k20, k30, k31, k40, k99, k160, ite_self, nI_add, nI_leI, nI_ltI, nI_eq, nI_clamp, nI_sub', nI_mul, vpb_n, eq_self, implies_true, grd_t, grd_i, if_pos, if_neg, bI_k, bV_k, bx0, bx1, mh0, mh1, rd_s, rd_o, rd_j, rd_2k, rdL_1k, ↓reduceIte, Bool.false_eq_true, Bool.true_eq_false, Nat.add_eq, Nat.zero_add, Nat.add_zero, not_true_eq_false, not_false_eq_true, q1]
        exact kk _ hinv
      · rw [if_neg q1] at hinv
        by_cases q2 : senV S L (rideN n M r (hs K A F L) i) = whV S L
        · rw [if_pos q2] at hinv
          rw [q2] at q1
          simp (disch := omega) only [k0, k1, k2, k3, k4, k5, k6, k7, k8, k9, k10, k12, k20, k30, k31, k40, k99, k160, ite_self, nI_add, nI_leI, nI_ltI, nI_eq, nI_clamp, nI_sub', nI_mul, vpb_n, eq_self, implies_true, grd_t, grd_i, if_pos, if_neg, bI_k, bV_k, bx0, bx1, mh0, mh1, rd_s, rd_o, rd_j, rd_2k, rdL_1k, ↓reduceIte, Bool.false_eq_true, Bool.true_eq_false, Nat.add_eq, Nat.zero_add, Nat.add_zero, not_true_eq_false, not_false_eq_true, q1, q2]
          exact kk _ hinv
        · rw [if_neg q2] at hinv
          simp (disch := omega) only [k0, k1, k2, k3, k4, k5, k6, k7, k8, k9, k10, k12, k20, k30, k31, k40, k99, k160, ite_self, nI_add, nI_leI, nI_ltI, nI_eq, nI_clamp, nI_sub', nI_mul, vpb_n, eq_self, implies_true, grd_t, grd_i, if_pos, if_neg, bI_k, bV_k, bx0, bx1, mh0, mh1, rd_s, rd_o, rd_j, rd_2k, rdL_1k, ↓reduceIte, Bool.false_eq_true, Bool.true_eq_false, Nat.add_eq, Nat.zero_add, Nat.add_zero, not_true_eq_false, not_false_eq_true, q1, q2]
          exact kk _ hinv
  obtain ⟨rfl, rfl⟩ := h3
  refine Ev.i ?_
  show EI (f_M_wrongOnes w3 (nI r)) _
  unfold f_M_wrongOnes
  rw [mro_g hr, M_wholeOf gb.2.1 hL]
  simp (disch := omega) only [k0, k1, k2, k3, k4, k5, k6, k7, k8, k9, k10, k12, k20, k30, k31, k40, k99, k160, ite_self, nI_add, nI_leI, nI_ltI, nI_eq, nI_clamp, nI_sub', nI_mul, vpb_n, eq_self, implies_true, grd_t, grd_i, if_pos, if_neg, bI_k, bV_k, bx0, bx1, mh0, mh1, rd_s, rd_o, rd_j, rd_2k, rdL_1k, ↓reduceIte, Bool.false_eq_true, Bool.true_eq_false, Nat.add_eq, Nat.zero_add, Nat.add_zero, not_true_eq_false, not_false_eq_true]
  refine Ev.bV (M_goOn gb.2.1 ok (r := r) (by omega)) (fun w4 h4 => ?_)
  have rm4 := gb.2.1.fm h4.1
  refine lp (σ := Int32) (F := fun m b i => f_M_wrongOnes_29 m w4 (whV S L) b (nI i)) (fun b i => falF S L (rideN n M r (hs K A F L)) (n - i) i b = falF S L (rideN n M r (hs K A F L)) n 0 (nI 0)) n 0 (nI 0) (by rw [Nat.sub_zero]) (by omega) (by omega) ?_ ?_
  · intro m b hi
    show Ev (f_M_wrongOnes_29 (m + 1) w4 (whV S L) b (nI n)) _
    rw [f_M_wrongOnes_29, rm4.1]
    simp (disch := omega) only [k0, k1, k2, k3, k4, k5, k6, k7, k8, k9, k10, k12, k20, k30, k31, k40, k99, k160, ite_self, nI_add, nI_leI, nI_ltI, nI_eq, nI_clamp, nI_sub', nI_mul, vpb_n, eq_self, implies_true, grd_t, grd_i, if_pos, if_neg, bI_k, bV_k, bx0, bx1, mh0, mh1, rd_s, rd_o, rd_j, rd_2k, rdL_1k, ↓reduceIte, Bool.false_eq_true, Bool.true_eq_false, Nat.add_eq, Nat.zero_add, Nat.add_zero, not_true_eq_false, not_false_eq_true]
    rw [Nat.sub_self] at hi
    exact Ev.i ⟨hi, h.fq (f2.q.tr h4.1.q')⟩
  · intro m b i _ hi hinv kk
    rw [falF_s hi] at hinv
    show Ev (f_M_wrongOnes_29 (m + 1) w4 (whV S L) b (nI i)) _
    rw [f_M_wrongOnes_29, rm4.1, nI_clamp (by omega), h4.2 i hi, M_senseOf rm4 hL]
    simp only [bI_k]
    rw [h4.2 i hi, M_senseOf rm4 hL]
    by_cases q1 : senV S L (rideN n M r (hs K A F L) i) = -nI 1
    · rw [if_pos q1] at hinv
      simp (disch := omega) only [k0, k1, k2, k3, k4, k5, k6, k7, k8, k9, k10, k12, k20, k30, k31, k40, k99, k160, ite_self, nI_add, nI_leI, nI_ltI, nI_eq, nI_clamp, nI_sub', nI_mul, vpb_n, eq_self, implies_true, grd_t, grd_i, if_pos, if_neg, bI_k, bV_k, bx0, bx1, mh0, mh1, rd_s, rd_o, rd_j, rd_2k, rdL_1k, ↓reduceIte, Bool.false_eq_true, Bool.true_eq_false, Nat.add_eq, Nat.zero_add, Nat.add_zero, not_true_eq_false, not_false_eq_true, q1]
      exact kk _ hinv
    · rw [if_neg q1] at hinv
      by_cases q2 : senV S L (rideN n M r (hs K A F L) i) = whV S L
      · rw [if_pos q2] at hinv
        rw [q2] at q1
        simp (disch := omega) only [k0, k1, k2, k3, k4, k5, k6, k7, k8, k9, k10, k12, k20, k30, k31, k40, k99, k160, ite_self, nI_add, nI_leI, nI_ltI, nI_eq, nI_clamp, nI_sub', nI_mul, vpb_n, eq_self, implies_true, grd_t, grd_i, if_pos, if_neg, bI_k, bV_k, bx0, bx1, mh0, mh1, rd_s, rd_o, rd_j, rd_2k, rdL_1k, ↓reduceIte, Bool.false_eq_true, Bool.true_eq_false, Nat.add_eq, Nat.zero_add, Nat.add_zero, not_true_eq_false, not_false_eq_true, q1, q2]
        exact kk _ hinv
      · rw [if_neg q2] at hinv
        simp (disch := omega) only [k0, k1, k2, k3, k4, k5, k6, k7, k8, k9, k10, k12, k20, k30, k31, k40, k99, k160, ite_self, nI_add, nI_leI, nI_ltI, nI_eq, nI_clamp, nI_sub', nI_mul, vpb_n, eq_self, implies_true, grd_t, grd_i, if_pos, if_neg, bI_k, bV_k, bx0, bx1, mh0, mh1, rd_s, rd_o, rd_j, rd_2k, rdL_1k, ↓reduceIte, Bool.false_eq_true, Bool.true_eq_false, Nat.add_eq, Nat.zero_add, Nat.add_zero, not_true_eq_false, not_false_eq_true, q1, q2]
        exact kk _ hinv
