/-! calls: cover, ask, soon, wrongOnes -/
theorem sh1n {n : Nat} (h : n ≤ 8) : nI 1 <<< (nI n &&& nI 31) = nI (2 ^ n) := by
  have := nI_sh1 (p := n) (by omega)
  rw [Nat.one_shiftLeft] at this
  exact this
theorem p256 {n : Nat} (h : n ≤ 8) : 2 ^ n ≤ 256 := Nat.pow_le_pow_right (n := 2) (by omega) h
noncomputable def coverF (H : Nat → Int32) (n : Nat) (al : Int32) : Nat → Nat → Int32 → Int32
  | 0, _, b => b
  | m + 1, s, b => coverF H n al m (s + 1) (if (b = -nI 1 ∨ ¬ pc b ≤ pc (nI s)) ∧ anyV H (nI s) n = al then nI s else b)
theorem coverF_s {H : Nat → Int32} {n N s : Nat} {al b : Int32} (h : s < N) : coverF H n al (N - s) s b = coverF H n al (N - (s + 1)) (s + 1) (if (b = -nI 1 ∨ ¬ pc b ≤ pc (nI s)) ∧ anyV H (nI s) n = al then nI s else b) := by
  rw [show N - s = (N - (s + 1)) + 1 by omega]
  rfl
theorem X_cover {w : MW} {n L : Nat} {K A F : Nat → Nat} {M S : Nat → Int32} (rx : RX 1 w n L K A F M S) (ok : OK n L K A F) :
    EI (f_Cl_fewestWhoCover w 1) (fun v w' => v = coverF (hs K A F L) n (allV L) (2 ^ n) 0 (-nI 1) ∧ FX w w') := by
  have hn := ok.1
  have hL := ok.2.1
  have hp := p256 hn
  have hp0 := Nat.two_pow_pos n
  unfold f_Cl_fewestWhoCover
  refine Ev.bV (X_listen rx ok) (fun w1 h1 => ?_)
  obtain ⟨f1, e59, _⟩ := h1
  have rx1 := rx.fx hn (by omega) f1
  rw [rx1.2.1, show f_X_span w1 (0 : Int32) (nI L) = _ from X_all w1 hL]
  simp (disch := omega) only [k0, k1, k2, k3, k4, k5, k6, k7, k8, k9, k10, k12, k20, k30, k31, k40, k99, k160, ite_self, nI_add, nI_leI, nI_ltI, nI_eq, nI_clamp, nI_sub', nI_mul, vpb_n, eq_self, implies_true, grd_t, grd_i, if_pos, if_neg, bI_k, bV_k, bx0, bx1, mh0, mh1, rd_s, rd_o, rd_j, rd_2k, rdL_1k, ↓reduceIte, Bool.false_eq_true, Bool.true_eq_false, Nat.add_eq, Nat.zero_add, Nat.add_zero, not_true_eq_false, not_false_eq_true]
  refine lp (σ := Int32 × Int32) (F := fun m s i => f_Cl_fewestWhoCover_23 1 m w1 (allV L) s.1 s.2 (nI i))
    (fun s i => coverF (hs K A F L) n (allV L) (2 ^ n - i) i s.1 = coverF (hs K A F L) n (allV L) (2 ^ n) 0 (-nI 1) ∧ ((s.1 = -nI 1 ∧ s.2 = nI 9) ∨ (∃ b, b < 256 ∧ s.1 = nI b ∧ s.2 = pc (nI b)))) (2 ^ n) 0 (-nI 1, nI 9) ⟨by rw [Nat.sub_zero], .inl ⟨rfl, rfl⟩⟩ (by omega) (by omega) ?_ ?_
  · intro m s hi
    obtain ⟨x, y⟩ := s
    obtain ⟨i1, i2⟩ := hi
    show Ev (f_Cl_fewestWhoCover_23 1 (m + 1) w1 (allV L) x y (nI (2 ^ n))) _
    rw [f_Cl_fewestWhoCover_23, rx1.1]
    simp (disch := omega) only [k0, k1, k2, k3, k4, k5, k6, k7, k8, k9, k10, k12, k20, k30, k31, k40, k99, k160, ite_self, nI_add, nI_leI, nI_ltI, nI_eq, nI_clamp, nI_sub', nI_mul, vpb_n, eq_self, implies_true, grd_t, grd_i, if_pos, if_neg, bI_k, bV_k, bx0, bx1, mh0, mh1, rd_s, rd_o, rd_j, rd_2k, rdL_1k, ↓reduceIte, Bool.false_eq_true, Bool.true_eq_false, Nat.add_eq, Nat.zero_add, Nat.add_zero, not_true_eq_false, not_false_eq_true, sh1n]
    rw [Nat.sub_self] at i1
    exact Ev.i ⟨i1, f1⟩
  · intro m s i _ hi hinv kk
    obtain ⟨x, y⟩ := s
    obtain ⟨i1, i2⟩ := hinv
    replace i2 : (x = -nI 1 ∧ y = nI 9) ∨ (∃ b, b < 256 ∧ x = nI b ∧ y = pc (nI b)) := i2
    replace i1 : coverF (hs K A F L) n (allV L) (2 ^ n - i) i x = _ := i1
    show Ev (f_Cl_fewestWhoCover_23 1 (m + 1) w1 (allV L) x y (nI i)) _
    rw [f_Cl_fewestWhoCover_23, rx1.1, bk]
    simp only [bI_k]
    rw [X_heardByAny hn (set_bits hi) e59]
    rw [coverF_s hi] at i1
    have h9 := pc9 (m := i) (by omega)
    have key : (y ≤ pc (nI i)) ↔ ¬ (x = -nI 1 ∨ ¬ pc x ≤ pc (nI i)) := by
      rcases i2 with ⟨rfl, rfl⟩ | ⟨b, hb, rfl, rfl⟩
      · simp [h9]
      · have := nI_ne_m1 (m := b) (by omega)
        simp [this]
    by_cases hq : y ≤ pc (nI i)
    · have hq2 := key.mp hq
      rw [if_neg (fun q => hq2 q.1)] at i1
      simp (disch := omega) only [k0, k1, k2, k3, k4, k5, k6, k7, k8, k9, k10, k12, k20, k30, k31, k40, k99, k160, ite_self, nI_add, nI_leI, nI_ltI, nI_eq, nI_clamp, nI_sub', nI_mul, vpb_n, eq_self, implies_true, grd_t, grd_i, if_pos, if_neg, bI_k, bV_k, bx0, bx1, mh0, mh1, rd_s, rd_o, rd_j, rd_2k, rdL_1k, ↓reduceIte, Bool.false_eq_true, Bool.true_eq_false, Nat.add_eq, Nat.zero_add, Nat.add_zero, not_true_eq_false, not_false_eq_true, sh1n, hq]
      exact kk (x, y) ⟨i1, i2⟩
    · have hq2 : x = -nI 1 ∨ ¬ pc x ≤ pc (nI i) := Decidable.byContradiction fun q => hq (key.mpr q)
      by_cases ha : anyV (hs K A F L) (nI i) n = allV L
      · rw [if_pos ⟨hq2, ha⟩] at i1
        simp (disch := omega) only [k0, k1, k2, k3, k4, k5, k6, k7, k8, k9, k10, k12, k20, k30, k31, k40, k99, k160, ite_self, nI_add, nI_leI, nI_ltI, nI_eq, nI_clamp, nI_sub', nI_mul, vpb_n, eq_self, implies_true, grd_t, grd_i, if_pos, if_neg, bI_k, bV_k, bx0, bx1, mh0, mh1, rd_s, rd_o, rd_j, rd_2k, rdL_1k, ↓reduceIte, Bool.false_eq_true, Bool.true_eq_false, Nat.add_eq, Nat.zero_add, Nat.add_zero, not_true_eq_false, not_false_eq_true, sh1n, hq, ha]
        exact kk (nI i, pc (nI i)) ⟨i1, .inr ⟨i, by omega, rfl, rfl⟩⟩
      · rw [if_neg (fun q => ha q.2)] at i1
        simp (disch := omega) only [k0, k1, k2, k3, k4, k5, k6, k7, k8, k9, k10, k12, k20, k30, k31, k40, k99, k160, ite_self, nI_add, nI_leI, nI_ltI, nI_eq, nI_clamp, nI_sub', nI_mul, vpb_n, eq_self, implies_true, grd_t, grd_i, if_pos, if_neg, bI_k, bV_k, bx0, bx1, mh0, mh1, rd_s, rd_o, rd_j, rd_2k, rdL_1k, ↓reduceIte, Bool.false_eq_true, Bool.true_eq_false, Nat.add_eq, Nat.zero_add, Nat.add_zero, not_true_eq_false, not_false_eq_true, sh1n, hq, ha]
        exact kk (x, y) ⟨i1, i2⟩
theorem M_isBetter (w : MW) (s b : Int32) : f_M_isBetter w s b = some (some (.int (if b = -nI 1 ∨ ¬ pc b ≤ pc s then nI 1 else nI 0)), w) := by
  unfold f_M_isBetter
  rw [bk]
  simp only [bI_k]
  rw [bk]
  simp only [bI_k]
  by_cases h : b = -nI 1
  · have e : (if b = -nI 1 ∨ ¬ pc b ≤ pc s then nI 1 else nI 0) = nI 1 := if_pos (.inl h)
    rw [e]
    simp (disch := omega) only [k0, k1, k2, k3, k4, k5, k6, k7, k8, k9, k10, k12, k20, k30, k31, k40, k99, k160, ite_self, nI_add, nI_leI, nI_ltI, nI_eq, nI_clamp, nI_sub', nI_mul, vpb_n, eq_self, implies_true, grd_t, grd_i, if_pos, if_neg, bI_k, bV_k, bx0, bx1, mh0, mh1, rd_s, rd_o, rd_j, rd_2k, rdL_1k, ↓reduceIte, Bool.false_eq_true, Bool.true_eq_false, Nat.add_eq, Nat.zero_add, Nat.add_zero, not_true_eq_false, not_false_eq_true, h]
  · by_cases h2 : pc b ≤ pc s
    · have e : (if b = -nI 1 ∨ ¬ pc b ≤ pc s then nI 1 else nI 0) = nI 0 := if_neg (fun q => q.elim h (fun q => q h2))
      rw [e]
      simp (disch := omega) only [k0, k1, k2, k3, k4, k5, k6, k7, k8, k9, k10, k12, k20, k30, k31, k40, k99, k160, ite_self, nI_add, nI_leI, nI_ltI, nI_eq, nI_clamp, nI_sub', nI_mul, vpb_n, eq_self, implies_true, grd_t, grd_i, if_pos, if_neg, bI_k, bV_k, bx0, bx1, mh0, mh1, rd_s, rd_o, rd_j, rd_2k, rdL_1k, ↓reduceIte, Bool.false_eq_true, Bool.true_eq_false, Nat.add_eq, Nat.zero_add, Nat.add_zero, not_true_eq_false, not_false_eq_true, h, h2]
    · have e : (if b = -nI 1 ∨ ¬ pc b ≤ pc s then nI 1 else nI 0) = nI 1 := if_pos (.inr h2)
      rw [e]
      simp (disch := omega) only [k0, k1, k2, k3, k4, k5, k6, k7, k8, k9, k10, k12, k20, k30, k31, k40, k99, k160, ite_self, nI_add, nI_leI, nI_ltI, nI_eq, nI_clamp, nI_sub', nI_mul, vpb_n, eq_self, implies_true, grd_t, grd_i, if_pos, if_neg, bI_k, bV_k, bx0, bx1, mh0, mh1, rd_s, rd_o, rd_j, rd_2k, rdL_1k, ↓reduceIte, Bool.false_eq_true, Bool.true_eq_false, Nat.add_eq, Nat.zero_add, Nat.add_zero, not_true_eq_false, not_false_eq_true, h, h2]
theorem M_cover {w : MW} {n L : Nat} {K A F : Nat → Nat} {M S : Nat → Int32} (rm : RM w n L K A F M S) (ok : OK n L K A F) :
    f_M_cover w = some (some (.int (coverF (hs K A F L) n (allV L) (2 ^ n) 0 (-nI 1))), w) := by
  have hn := ok.1
  have hL := ok.2.1
  have hp := p256 hn
  have hp0 := Nat.two_pow_pos n
  unfold f_M_cover
  have h : EI (f_M_cover_4 FU w (-nI 1) (nI 0)) (fun v w' => v = coverF (hs K A F L) n (allV L) (2 ^ n) 0 (-nI 1) ∧ w' = w) := by
    refine lp (σ := Int32) (F := fun m x i => f_M_cover_4 m w x (nI i)) (fun x i => coverF (hs K A F L) n (allV L) (2 ^ n - i) i x = coverF (hs K A F L) n (allV L) (2 ^ n) 0 (-nI 1)) (2 ^ n) 0 (-nI 1) (by rw [Nat.sub_zero]) (by omega) (by omega) ?_ ?_
    · intro m x i1
      show Ev (f_M_cover_4 (m + 1) w x (nI (2 ^ n))) _
      rw [f_M_cover_4, rm.1]
      simp (disch := omega) only [k0, k1, k2, k3, k4, k5, k6, k7, k8, k9, k10, k12, k20, k30, k31, k40, k99, k160, ite_self, nI_add, nI_leI, nI_ltI, nI_eq, nI_clamp, nI_sub', nI_mul, vpb_n, eq_self, implies_true, grd_t, grd_i, if_pos, if_neg, bI_k, bV_k, bx0, bx1, mh0, mh1, rd_s, rd_o, rd_j, rd_2k, rdL_1k, ↓reduceIte, Bool.false_eq_true, Bool.true_eq_false, Nat.add_eq, Nat.zero_add, Nat.add_zero, not_true_eq_false, not_false_eq_true, sh1n]
      rw [Nat.sub_self] at i1
      exact Ev.i ⟨i1, rfl⟩
    · intro m x i _ hi i1 kk
      show Ev (f_M_cover_4 (m + 1) w x (nI i)) _
      rw [f_M_cover_4, rm.1, M_isBetter]
      simp only [bI_k]
      rw [M_heardBy rm ok]
      simp only [bI_k]
      rw [rm.2.1]
      have e : ((1 : Int32) <<< (nI L &&& 31)) - 1 = allV L := all_eq hL
      rw [e]
      rw [coverF_s hi] at i1
      by_cases hq : x = -nI 1 ∨ ¬ pc x ≤ pc (nI i)
      · by_cases ha : anyV (hs K A F L) (nI i) n = allV L
        · rw [if_pos ⟨hq, ha⟩] at i1
          rw [if_pos hq]
          simp (disch := omega) only [k0, k1, k2, k3, k4, k5, k6, k7, k8, k9, k10, k12, k20, k30, k31, k40, k99, k160, ite_self, nI_add, nI_leI, nI_ltI, nI_eq, nI_clamp, nI_sub', nI_mul, vpb_n, eq_self, implies_true, grd_t, grd_i, if_pos, if_neg, bI_k, bV_k, bx0, bx1, mh0, mh1, rd_s, rd_o, rd_j, rd_2k, rdL_1k, ↓reduceIte, Bool.false_eq_true, Bool.true_eq_false, Nat.add_eq, Nat.zero_add, Nat.add_zero, not_true_eq_false, not_false_eq_true, sh1n, ha]
          exact kk _ i1
        · rw [if_neg (fun q => ha q.2)] at i1
          rw [if_pos hq]
          simp (disch := omega) only [k0, k1, k2, k3, k4, k5, k6, k7, k8, k9, k10, k12, k20, k30, k31, k40, k99, k160, ite_self, nI_add, nI_leI, nI_ltI, nI_eq, nI_clamp, nI_sub', nI_mul, vpb_n, eq_self, implies_true, grd_t, grd_i, if_pos, if_neg, bI_k, bV_k, bx0, bx1, mh0, mh1, rd_s, rd_o, rd_j, rd_2k, rdL_1k, ↓reduceIte, Bool.false_eq_true, Bool.true_eq_false, Nat.add_eq, Nat.zero_add, Nat.add_zero, not_true_eq_false, not_false_eq_true, sh1n, ha]
          exact kk _ i1
      · rw [if_neg (fun q => hq q.1)] at i1
        rw [if_neg hq]
        simp (disch := omega) only [k0, k1, k2, k3, k4, k5, k6, k7, k8, k9, k10, k12, k20, k30, k31, k40, k99, k160, ite_self, nI_add, nI_leI, nI_ltI, nI_eq, nI_clamp, nI_sub', nI_mul, vpb_n, eq_self, implies_true, grd_t, grd_i, if_pos, if_neg, bI_k, bV_k, bx0, bx1, mh0, mh1, rd_s, rd_o, rd_j, rd_2k, rdL_1k, ↓reduceIte, Bool.false_eq_true, Bool.true_eq_false, Nat.add_eq, Nat.zero_add, Nat.add_zero, not_true_eq_false, not_false_eq_true, sh1n]
        exact kk _ i1
  obtain ⟨r, w', e, v, rfl, rfl, rfl⟩ := h
  exact e
theorem sim_cover : SIM (fun w => f_X_cover w) (fun w => f_M_cover w) := by
  intro sc N w h
  have h0 := h
  obtain ⟨⟨n, L, K, A, F, M, S, g1, g2⟩, g3, g4, g5, g6⟩ := h0
  show EI (f_X_cover w) _
  unfold f_X_cover
  refine Ev.bI (X_cover g1.1 g1.2.2.1) (fun v w1 h1 => ?_)
  obtain ⟨rfl, f1⟩ := h1
  refine Ev.i ?_
  show EI (f_M_cover w1) _
  rw [M_cover (g1.fq f1.q).2.1 g1.2.2.1]
  exact Ev.i ⟨rfl, h.fq f1.q⟩
