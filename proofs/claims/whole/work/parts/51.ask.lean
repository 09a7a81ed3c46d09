/-! ask -/
noncomputable def askF (H : Nat → Int32) (x any : Int32) : Nat → Nat → Int32 → Int32 → Int32
  | 0, _, f, _ => f
  | m + 1, i, f, t => if bt x i = true ∨ pc (H i &&& (any ^^^ (-nI 1))) ≤ t then askF H x any m (i + 1) f t else askF H x any m (i + 1) (nI i) (pc (H i &&& (any ^^^ (-nI 1))))
theorem askF_s {H : Nat → Int32} {x any f t : Int32} {n i : Nat} (h : i < n) : askF H x any (n - i) i f t = if bt x i = true ∨ pc (H i &&& (any ^^^ (-nI 1))) ≤ t then askF H x any (n - (i + 1)) (i + 1) f t else askF H x any (n - (i + 1)) (i + 1) (nI i) (pc (H i &&& (any ^^^ (-nI 1)))) := by
  rw [show n - i = (n - (i + 1)) + 1 by omega]
  rfl
noncomputable def askV (H : Nat → Int32) (x : Int32) (n : Nat) : Int32 := askF H x (anyV H x n) n 0 (-nI 1) (nI 0)
theorem X_ask {w : MW} {n L : Nat} {K A F : Nat → Nat} {M S : Nat → Int32} {x : Int32} (rx : RX 1 w n L K A F M S) (ok : OK n L K A F) (hx : ∀ j, n ≤ j → bt x j = false) :
    EI (f_Cl_nextToAsk w 1 x) (fun v w' => v = askV (hs K A F L) x n ∧ FX w w') := by
  have hn := ok.1
  unfold f_Cl_nextToAsk f_Cl_placesHeardBy
  refine Ev.bI (P := fun v w' => v = anyV (hs K A F L) x n ∧ FX w w' ∧ ∀ i, i < n → w'.1 59 i = hs K A F L i) ?_ (fun v w1 h1 => ?_)
  · refine Ev.bV (X_listen rx ok) (fun w1 h1 => ?_)
    rw [X_heardByAny hn hx h1.2.1]
    exact Ev.i ⟨rfl, h1.1, h1.2.1⟩
  obtain ⟨rfl, f1, e59⟩ := h1
  have rx1 := rx.fx hn (by omega) f1
  have e1 := rx1.1
  refine lp (σ := Int32 × Int32) (F := fun m s i => f_Cl_nextToAsk_16 1 m w1 x (anyV (hs K A F L) x n) s.1 s.2 (nI i)) (fun s i => askF (hs K A F L) x (anyV (hs K A F L) x n) (n - i) i s.1 s.2 = askV (hs K A F L) x n) n 0 (-nI 1, nI 0) (by rw [Nat.sub_zero]; rfl) (by omega) (by omega) ?_ ?_
  · intro m s hi
    obtain ⟨f, t⟩ := s
    show Ev (f_Cl_nextToAsk_16 1 (m + 1) w1 x (anyV (hs K A F L) x n) f t (nI n)) _
    rw [f_Cl_nextToAsk_16, e1]
    simp (disch := omega) only [k0, k1, k2, k3, k4, k5, k6, k7, k8, k9, k10, k12, k20, k30, k31, k40, k99, k160, ite_self, nI_add, nI_leI, nI_ltI, nI_eq, nI_clamp, nI_sub', nI_mul, vpb_n, eq_self, implies_true, grd_t, grd_i, if_pos, if_neg, bI_k, bV_k, bx0, bx1, mh0, mh1, rd_s, rd_o, rd_j, rd_2k, rdL_1k, ↓reduceIte, Bool.false_eq_true, Bool.true_eq_false, Nat.add_eq, Nat.zero_add, Nat.add_zero, not_true_eq_false, not_false_eq_true]
    rw [Nat.sub_self] at hi
    exact Ev.i ⟨hi, f1⟩
  · intro m s i _ hi hinv kk
    obtain ⟨f, t⟩ := s
    replace hinv : askF (hs K A F L) x (anyV (hs K A F L) x n) (n - i) i f t = _ := hinv
    rw [askF_s hi] at hinv
    show Ev (f_Cl_nextToAsk_16 1 (m + 1) w1 x (anyV (hs K A F L) x n) f t (nI i)) _
    rw [f_Cl_nextToAsk_16, e1, bk]
    have e2 := e59 i hi
    by_cases hb : bt x i = true
    · rw [if_pos (.inl hb)] at hinv
      simp (disch := omega) only [k0, k1, k2, k3, k4, k5, k6, k7, k8, k9, k10, k12, k20, k30, k31, k40, k99, k160, ite_self, nI_add, nI_leI, nI_ltI, nI_eq, nI_clamp, nI_sub', nI_mul, vpb_n, eq_self, implies_true, grd_t, grd_i, if_pos, if_neg, bI_k, bV_k, bx0, bx1, mh0, mh1, rd_s, rd_o, rd_j, rd_2k, rdL_1k, ↓reduceIte, Bool.false_eq_true, Bool.true_eq_false, Nat.add_eq, Nat.zero_add, Nat.add_zero, not_true_eq_false, not_false_eq_true, hb]
      exact kk (f, t) hinv
    · by_cases hq : pc (hs K A F L i &&& (anyV (hs K A F L) x n ^^^ (-nI 1))) ≤ t
      · rw [if_pos (.inr hq)] at hinv
        simp (disch := omega) only [k0, k1, k2, k3, k4, k5, k6, k7, k8, k9, k10, k12, k20, k30, k31, k40, k99, k160, ite_self, nI_add, nI_leI, nI_ltI, nI_eq, nI_clamp, nI_sub', nI_mul, vpb_n, eq_self, implies_true, grd_t, grd_i, if_pos, if_neg, bI_k, bV_k, bx0, bx1, mh0, mh1, rd_s, rd_o, rd_j, rd_2k, rdL_1k, ↓reduceIte, Bool.false_eq_true, Bool.true_eq_false, Nat.add_eq, Nat.zero_add, Nat.add_zero, not_true_eq_false, not_false_eq_true, hb, e2, hq]
        exact kk (f, t) hinv
      · rw [if_neg (fun q => q.elim hb hq)] at hinv
        simp (disch := omega) only [k0, k1, k2, k3, k4, k5, k6, k7, k8, k9, k10, k12, k20, k30, k31, k40, k99, k160, ite_self, nI_add, nI_leI, nI_ltI, nI_eq, nI_clamp, nI_sub', nI_mul, vpb_n, eq_self, implies_true, grd_t, grd_i, if_pos, if_neg, bI_k, bV_k, bx0, bx1, mh0, mh1, rd_s, rd_o, rd_j, rd_2k, rdL_1k, ↓reduceIte, Bool.false_eq_true, Bool.true_eq_false, Nat.add_eq, Nat.zero_add, Nat.add_zero, not_true_eq_false, not_false_eq_true, hb, e2, hq]
        exact kk (_, _) hinv
theorem M_ask {w : MW} {n L : Nat} {K A F : Nat → Nat} {M S : Nat → Int32} {x : Int32} (rm : RM w n L K A F M S) (ok : OK n L K A F) :
    f_M_ask_29 FU w x (anyV (hs K A F L) x n) (-nI 1) (nI 0) (nI 0) = some (some (.int (askV (hs K A F L) x n)), w) := by
  have hn := ok.1
  have e1 := rm.1
  have h : EI (f_M_ask_29 FU w x (anyV (hs K A F L) x n) (-nI 1) (nI 0) (nI 0)) (fun v w' => v = askV (hs K A F L) x n ∧ w' = w) := by
    refine lp (σ := Int32 × Int32) (F := fun m s i => f_M_ask_29 m w x (anyV (hs K A F L) x n) s.1 s.2 (nI i)) (fun s i => askF (hs K A F L) x (anyV (hs K A F L) x n) (n - i) i s.1 s.2 = askV (hs K A F L) x n) n 0 (-nI 1, nI 0) (by rw [Nat.sub_zero]; rfl) (by omega) (by omega) ?_ ?_
    · intro m s hi
      obtain ⟨f, t⟩ := s
      show Ev (f_M_ask_29 (m + 1) w x (anyV (hs K A F L) x n) f t (nI n)) _
      rw [f_M_ask_29, e1]
      simp (disch := omega) only [k0, k1, k2, k3, k4, k5, k6, k7, k8, k9, k10, k12, k20, k30, k31, k40, k99, k160, ite_self, nI_add, nI_leI, nI_ltI, nI_eq, nI_clamp, nI_sub', nI_mul, vpb_n, eq_self, implies_true, grd_t, grd_i, if_pos, if_neg, bI_k, bV_k, bx0, bx1, mh0, mh1, rd_s, rd_o, rd_j, rd_2k, rdL_1k, ↓reduceIte, Bool.false_eq_true, Bool.true_eq_false, Nat.add_eq, Nat.zero_add, Nat.add_zero, not_true_eq_false, not_false_eq_true]
      rw [Nat.sub_self] at hi
      exact Ev.i ⟨hi, rfl⟩
    · intro m s i _ hi hinv kk
      obtain ⟨f, t⟩ := s
      replace hinv : askF (hs K A F L) x (anyV (hs K A F L) x n) (n - i) i f t = _ := hinv
      rw [askF_s hi] at hinv
      show Ev (f_M_ask_29 (m + 1) w x (anyV (hs K A F L) x n) f t (nI i)) _
      rw [f_M_ask_29, e1, M_hisOf rm ok hi]
      simp only [bI_k]
      rw [bk]
      simp only [bI_k]
      by_cases hb : bt x i = true
      · rw [if_pos (.inl hb)] at hinv
        simp (disch := omega) only [k0, k1, k2, k3, k4, k5, k6, k7, k8, k9, k10, k12, k20, k30, k31, k40, k99, k160, ite_self, nI_add, nI_leI, nI_ltI, nI_eq, nI_clamp, nI_sub', nI_mul, vpb_n, eq_self, implies_true, grd_t, grd_i, if_pos, if_neg, bI_k, bV_k, bx0, bx1, mh0, mh1, rd_s, rd_o, rd_j, rd_2k, rdL_1k, ↓reduceIte, Bool.false_eq_true, Bool.true_eq_false, Nat.add_eq, Nat.zero_add, Nat.add_zero, not_true_eq_false, not_false_eq_true, hb]
        exact kk (f, t) hinv
      · have hb' : bt x i = false := by simpa using hb
        by_cases hq : pc (hs K A F L i &&& (anyV (hs K A F L) x n ^^^ (-nI 1))) ≤ t
        · rw [if_pos (.inr hq)] at hinv
          have hq2 := Int32.not_lt.mpr hq
          simp (disch := omega) only [k0, k1, k2, k3, k4, k5, k6, k7, k8, k9, k10, k12, k20, k30, k31, k40, k99, k160, ite_self, nI_add, nI_leI, nI_ltI, nI_eq, nI_clamp, nI_sub', nI_mul, vpb_n, eq_self, implies_true, grd_t, grd_i, if_pos, if_neg, bI_k, bV_k, bx0, bx1, mh0, mh1, rd_s, rd_o, rd_j, rd_2k, rdL_1k, ↓reduceIte, Bool.false_eq_true, Bool.true_eq_false, Nat.add_eq, Nat.zero_add, Nat.add_zero, not_true_eq_false, not_false_eq_true, hb', hq2]
          exact kk (f, t) hinv
        · rw [if_neg (fun q => q.elim hb hq)] at hinv
          have hq2 := Int32.not_le.mp hq
          simp (disch := omega) only [k0, k1, k2, k3, k4, k5, k6, k7, k8, k9, k10, k12, k20, k30, k31, k40, k99, k160, ite_self, nI_add, nI_leI, nI_ltI, nI_eq, nI_clamp, nI_sub', nI_mul, vpb_n, eq_self, implies_true, grd_t, grd_i, if_pos, if_neg, bI_k, bV_k, bx0, bx1, mh0, mh1, rd_s, rd_o, rd_j, rd_2k, rdL_1k, ↓reduceIte, Bool.false_eq_true, Bool.true_eq_false, Nat.add_eq, Nat.zero_add, Nat.add_zero, not_true_eq_false, not_false_eq_true, hb', hq2]
          exact kk (_, _) hinv
  obtain ⟨r, w', e, v, rfl, rfl, rfl⟩ := h
  exact e
theorem sim_ask (x1 : Int32) : SIM (fun w => f_X_ask w x1) (fun w => f_M_ask w x1) := by
  intro sc N w h
  have h0 := h
  obtain ⟨⟨n, L, K, A, F, M, S, g1, g2⟩, g3, g4, g5, g6⟩ := h0
  have hn := g1.2.2.1.1
  show EI (f_X_ask w x1) _
  unfold f_X_ask
  by_cases hx : ∃ m, m < 2 ^ n ∧ x1 = nI m
  · rw [(X_isSet hn g1.1.1).1 hx]
    simp (disch := omega) only [k0, k1, k2, k3, k4, k5, k6, k7, k8, k9, k10, k12, k20, k30, k31, k40, k99, k160, ite_self, nI_add, nI_leI, nI_ltI, nI_eq, nI_clamp, nI_sub', nI_mul, vpb_n, eq_self, implies_true, grd_t, grd_i, if_pos, if_neg, bI_k, bV_k, bx0, bx1, mh0, mh1, rd_s, rd_o, rd_j, rd_2k, rdL_1k, ↓reduceIte, Bool.false_eq_true, Bool.true_eq_false, Nat.add_eq, Nat.zero_add, Nat.add_zero, not_true_eq_false, not_false_eq_true]
    have hbit : ∀ j, n ≤ j → bt x1 j = false := by
      obtain ⟨m, hm, rfl⟩ := hx
      exact set_bits hm
    refine Ev.bI (X_ask g1.1 g1.2.2.1 hbit) (fun v w1 h1 => ?_)
    obtain ⟨rfl, f1⟩ := h1
    have g := g1.fq f1.q
    refine Ev.i ?_
    show EI (f_M_ask w1 x1) _
    unfold f_M_ask
    rw [(M_isSet hn g.2.1.1).1 hx]
    simp (disch := omega) only [k0, k1, k2, k3, k4, k5, k6, k7, k8, k9, k10, k12, k20, k30, k31, k40, k99, k160, ite_self, nI_add, nI_leI, nI_ltI, nI_eq, nI_clamp, nI_sub', nI_mul, vpb_n, eq_self, implies_true, grd_t, grd_i, if_pos, if_neg, bI_k, bV_k, bx0, bx1, mh0, mh1, rd_s, rd_o, rd_j, rd_2k, rdL_1k, ↓reduceIte, Bool.false_eq_true, Bool.true_eq_false, Nat.add_eq, Nat.zero_add, Nat.add_zero, not_true_eq_false, not_false_eq_true]
    rw [M_heardBy g.2.1 g.2.2.1]
    simp (disch := omega) only [k0, k1, k2, k3, k4, k5, k6, k7, k8, k9, k10, k12, k20, k30, k31, k40, k99, k160, ite_self, nI_add, nI_leI, nI_ltI, nI_eq, nI_clamp, nI_sub', nI_mul, vpb_n, eq_self, implies_true, grd_t, grd_i, if_pos, if_neg, bI_k, bV_k, bx0, bx1, mh0, mh1, rd_s, rd_o, rd_j, rd_2k, rdL_1k, ↓reduceIte, Bool.false_eq_true, Bool.true_eq_false, Nat.add_eq, Nat.zero_add, Nat.add_zero, not_true_eq_false, not_false_eq_true]
    rw [M_ask g.2.1 g.2.2.1]
    exact Ev.i ⟨rfl, h.fq f1.q⟩
  · rw [(X_isSet hn g1.1.1).2 hx]
    simp (disch := omega) only [k0, k1, k2, k3, k4, k5, k6, k7, k8, k9, k10, k12, k20, k30, k31, k40, k99, k160, ite_self, nI_add, nI_leI, nI_ltI, nI_eq, nI_clamp, nI_sub', nI_mul, vpb_n, eq_self, implies_true, grd_t, grd_i, if_pos, if_neg, bI_k, bV_k, bx0, bx1, mh0, mh1, rd_s, rd_o, rd_j, rd_2k, rdL_1k, ↓reduceIte, Bool.false_eq_true, Bool.true_eq_false, Nat.add_eq, Nat.zero_add, Nat.add_zero, not_true_eq_false, not_false_eq_true, u_refF]
    refine Ev.i ?_
    show EI (f_M_ask (u_X_refuse w (-nI 6)) x1) _
    unfold f_M_ask
    rw [(M_isSet hn (by rw [xr_o (by omega), g1.2.1.1])).2 hx]
    simp (disch := omega) only [k0, k1, k2, k3, k4, k5, k6, k7, k8, k9, k10, k12, k20, k30, k31, k40, k99, k160, ite_self, nI_add, nI_leI, nI_ltI, nI_eq, nI_clamp, nI_sub', nI_mul, vpb_n, eq_self, implies_true, grd_t, grd_i, if_pos, if_neg, bI_k, bV_k, bx0, bx1, mh0, mh1, rd_s, rd_o, rd_j, rd_2k, rdL_1k, ↓reduceIte, Bool.false_eq_true, Bool.true_eq_false, Nat.add_eq, Nat.zero_add, Nat.add_zero, not_true_eq_false, not_false_eq_true, u_no10]
    exact Ev.i ⟨rfl, inv_ref h (by omega) (by omega)⟩
