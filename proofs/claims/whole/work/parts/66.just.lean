/-! who hears just a row -/
def hrF (S E : Nat → Int32) (x : Int32) (len : Nat) : Nat → Nat → Nat → Int32
  | 0, _, i => if i = len then nI 1 else nI 0
  | m + 1, p, i => if bt x p = false then hrF S E x len m (p + 1) i else if i = len then nI 0 else if E i = S p then hrF S E x len m (p + 1) (i + 1) else nI 0
theorem hr01 {S E : Nat → Int32} {x : Int32} {len : Nat} : ∀ (m p i : Nat), hrF S E x len m p i = nI 0 ∨ hrF S E x len m p i = nI 1 := by
  intro m
  induction m with
  | zero =>
    intro p i
    rw [hrF]
    split
    · exact .inr rfl
    · exact .inl rfl
  | succ m ih =>
    intro p i
    rw [hrF]
    split
    · exact ih _ _
    split
    · exact .inl rfl
    split
    · exact ih _ _
    · exact .inl rfl
theorem bt_div {m p : Nat} (hp : p < 32) : (bt (nI m) p = false ↔ m / 2 ^ p % 2 = 0) := by
  rw [bt_nI, Nat.testBit_eq_decide_div_mod_eq]
  have : m / 2 ^ p % 2 < 2 := Nat.mod_lt _ (by omega)
  simp [hp]
theorem cnt_p (m p q : Nat) : cntN (m / 2 ^ p) (q + 1) = m / 2 ^ p % 2 + cntN (m / 2 ^ (p + 1)) q := by
  rw [cntN, Nat.div_div_eq_div_mul, show 2 ^ p * 2 = 2 ^ (p + 1) from (Nat.pow_succ _ _).symm]
theorem hr0 {S E : Nat → Int32} {m len : Nat} : ∀ (q p i : Nat), p + q ≤ 32 → i + cntN (m / 2 ^ p) q ≠ len → hrF S E (nI m) len q p i = nI 0 := by
  intro q
  induction q with
  | zero =>
    intro p i hp h
    rw [cntN, Nat.add_zero] at h
    rw [hrF, if_neg h]
  | succ q ih =>
    intro p i hp h
    rw [hrF]
    rw [cnt_p] at h
    by_cases hb : bt (nI m) p = false
    · rw [if_pos hb]
      have := (bt_div (by omega)).mp hb
      exact ih (p + 1) i (by omega) (by omega)
    · rw [if_neg hb]
      have h2 : m / 2 ^ p % 2 = 1 := by
        have : ¬ m / 2 ^ p % 2 = 0 := fun e => hb ((bt_div (by omega)).mpr e)
        have : m / 2 ^ p % 2 < 2 := Nat.mod_lt _ (by omega)
        omega
      split
      · rfl
      split
      · exact ih (p + 1) (i + 1) (by omega) (by omega)
      · rfl
theorem X_just {w : MW} {n L s len m : Nat} {K A F : Nat → Nat} {M S E : Nat → Int32} (rx : RX 1 w n L K A F M S) (hL : L ≤ 30) (hs8 : s < 8) (hl : len ≤ 160) (e : w.1 (35 + 2 * s) 1 = nI len) (hE : ∀ i, i < len → (w.2.1 (35 + 2 * s + 1) i).toInt32 = E i) (hm : m < 2 ^ L) :
    f_Cl_isJust w 1 (nI m) (35 + 2 * s) = some (some (.int (hrF S E (nI m) len L 0 0)), w) := by
  have hm30 : m < 2 ^ 30 := Nat.lt_of_lt_of_le hm (Nat.pow_le_pow_right (by omega) hL)
  have hcnt : cntN m 32 = cntN m L := by
    rw [show 32 = L + (32 - L) by omega, cntN_add, Nat.div_eq_of_lt hm, cntN_0, Nat.add_zero]
  have hc := cntN_le L m
  unfold f_Cl_isJust
  rw [bk, pc_eq, pcV_cnt hm30, hcnt]
  simp only [bI_k]
  rw [e]
  by_cases hq : cntN m L = len
  · simp (disch := omega) only [k0, k1, k2, k3, k4, k5, k6, k7, k8, k9, k10, k12, k20, k30, k31, k40, k99, k160, ite_self, nI_add, nI_leI, nI_ltI, nI_eq, nI_clamp, nI_sub', nI_mul, vpb_n, eq_self, implies_true, grd_t, grd_i, if_pos, if_neg, bI_k, bV_k, bx0, bx1, mh0, mh1, rd_s, rd_o, rd_j, rd_2k, rdL_1k, ↓reduceIte, Bool.false_eq_true, Bool.true_eq_false, Nat.add_eq, Nat.zero_add, Nat.add_zero, not_true_eq_false, not_false_eq_true, hq]
    have h : EI (f_Cl_isJust_19 1 (35 + 2 * s) FU w (nI m) (nI 0) (nI 0)) (fun v w' => v = hrF S E (nI m) len L 0 0 ∧ w' = w) := by
      refine lp (σ := Nat) (F := fun f i p => f_Cl_isJust_19 1 (35 + 2 * s) f w (nI m) (nI i) (nI p)) (fun i p => i + cntN (m / 2 ^ p) (L - p) = len ∧ hrF S E (nI m) len (L - p) p i = hrF S E (nI m) len L 0 0) L 0 0 ⟨by rw [Nat.pow_zero, Nat.div_one, Nat.zero_add]; exact hq, by rw [Nat.sub_zero]⟩ (by omega) (by omega) ?_ ?_
      · intro f i hi
        obtain ⟨i1, i2⟩ := hi
        show Ev (f_Cl_isJust_19 1 (35 + 2 * s) (f + 1) w (nI m) (nI i) (nI L)) _
        rw [f_Cl_isJust_19, rx.2.1]
        simp (disch := omega) only [k0, k1, k2, k3, k4, k5, k6, k7, k8, k9, k10, k12, k20, k30, k31, k40, k99, k160, ite_self, nI_add, nI_leI, nI_ltI, nI_eq, nI_clamp, nI_sub', nI_mul, vpb_n, eq_self, implies_true, grd_t, grd_i, if_pos, if_neg, bI_k, bV_k, bx0, bx1, mh0, mh1, rd_s, rd_o, rd_j, rd_2k, rdL_1k, ↓reduceIte, Bool.false_eq_true, Bool.true_eq_false, Nat.add_eq, Nat.zero_add, Nat.add_zero, not_true_eq_false, not_false_eq_true]
        rw [Nat.sub_self] at i1 i2
        rw [hrF, if_pos (by rw [cntN] at i1; omega)] at i2
        exact Ev.i ⟨i2, rfl⟩
      · intro f i p _ hp hinv kk
        obtain ⟨i1, i2⟩ := hinv
        rw [show L - p = (L - (p + 1)) + 1 by omega] at i1 i2
        rw [cnt_p] at i1
        rw [hrF] at i2
        have e11 : w.1 (1 + 10) p = S p := rx.2.2.2 p hp
        show Ev (f_Cl_isJust_19 1 (35 + 2 * s) (f + 1) w (nI m) (nI i) (nI p)) _
        rw [f_Cl_isJust_19, rx.2.1]
        by_cases hb : bt (nI m) p = false
        · rw [if_pos hb] at i2
          have := (bt_div (by omega)).mp hb
          simp (disch := omega) only [k0, k1, k2, k3, k4, k5, k6, k7, k8, k9, k10, k12, k20, k30, k31, k40, k99, k160, ite_self, nI_add, nI_leI, nI_ltI, nI_eq, nI_clamp, nI_sub', nI_mul, vpb_n, eq_self, implies_true, grd_t, grd_i, if_pos, if_neg, bI_k, bV_k, bx0, bx1, mh0, mh1, rd_s, rd_o, rd_j, rd_2k, rdL_1k, ↓reduceIte, Bool.false_eq_true, Bool.true_eq_false, Nat.add_eq, Nat.zero_add, Nat.add_zero, not_true_eq_false, not_false_eq_true, hb]
          exact kk i ⟨by omega, i2⟩
        · rw [if_neg hb] at i2
          have h2 : m / 2 ^ p % 2 = 1 := by
            have : ¬ m / 2 ^ p % 2 = 0 := fun e => hb ((bt_div (by omega)).mpr e)
            have : m / 2 ^ p % 2 < 2 := Nat.mod_lt _ (by omega)
            omega
          rw [if_neg (by omega)] at i2
          rw [asInt_e (E := E) e hl (hE i (by omega)) (by omega)]
          by_cases he : E i = S p
          · rw [if_pos he] at i2
            simp (disch := omega) only [k0, k1, k2, k3, k4, k5, k6, k7, k8, k9, k10, k12, k20, k30, k31, k40, k99, k160, ite_self, nI_add, nI_leI, nI_ltI, nI_eq, nI_clamp, nI_sub', nI_mul, vpb_n, eq_self, implies_true, grd_t, grd_i, if_pos, if_neg, bI_k, bV_k, bx0, bx1, mh0, mh1, rd_s, rd_o, rd_j, rd_2k, rdL_1k, ↓reduceIte, Bool.false_eq_true, Bool.true_eq_false, Nat.add_eq, Nat.zero_add, Nat.add_zero, not_true_eq_false, not_false_eq_true, hb, e, e11, he]
            exact kk (i + 1) ⟨by omega, i2⟩
          · rw [if_neg he] at i2
            simp (disch := omega) only [k0, k1, k2, k3, k4, k5, k6, k7, k8, k9, k10, k12, k20, k30, k31, k40, k99, k160, ite_self, nI_add, nI_leI, nI_ltI, nI_eq, nI_clamp, nI_sub', nI_mul, vpb_n, eq_self, implies_true, grd_t, grd_i, if_pos, if_neg, bI_k, bV_k, bx0, bx1, mh0, mh1, rd_s, rd_o, rd_j, rd_2k, rdL_1k, ↓reduceIte, Bool.false_eq_true, Bool.true_eq_false, Nat.add_eq, Nat.zero_add, Nat.add_zero, not_true_eq_false, not_false_eq_true, hb, e, e11, he]
            exact Ev.i ⟨i2, rfl⟩
    obtain ⟨r, w', e, v, rfl, rfl, rfl⟩ := h
    exact e
  · have hc : ¬ nI (cntN m L) = nI len := fun q => hq ((nI_eq (by omega) (by omega)).mp q)
    rw [if_neg hc, hr0 L 0 0 (by omega) (by rw [Nat.pow_zero, Nat.div_one, Nat.zero_add]; exact hq)]
    rfl
theorem M_heardRow {w : MW} {n L s len : Nat} {K A F : Nat → Nat} {M S E : Nat → Int32} {x : Int32} (rm : RM w n L K A F M S) (hL : L ≤ 30) (hs8 : s < 8) (hl : len ≤ 160) (e : w.1 64 s = nI len) (hE : ∀ i, i < len → (w.2.1 65 (160 * s + i)).toInt32 = E i) :
    f_M_isHeard w (nI s) x = some (some (.int (hrF S E x len L 0 0)), w) := by
  unfold f_M_isHeard
  have h : EI (f_M_isHeard_5 FU w (nI s) x (nI 0) (nI 0)) (fun v w' => v = hrF S E x len L 0 0 ∧ w' = w) := by
    refine lp (σ := Nat) (F := fun f i p => f_M_isHeard_5 f w (nI s) x (nI i) (nI p)) (fun i p => i ≤ len ∧ hrF S E x len (L - p) p i = hrF S E x len L 0 0) L 0 0 ⟨by omega, by rw [Nat.sub_zero]⟩ (by omega) (by omega) ?_ ?_
    · intro f i hi
      obtain ⟨i1, i2⟩ := hi
      show Ev (f_M_isHeard_5 (f + 1) w (nI s) x (nI i) (nI L)) _
      rw [f_M_isHeard_5, rm.2.1]
      rw [Nat.sub_self, hrF] at i2
      by_cases q : i = len
      · rw [if_pos q] at i2
        simp (disch := omega) only [k0, k1, k2, k3, k4, k5, k6, k7, k8, k9, k10, k12, k20, k30, k31, k40, k99, k160, ite_self, nI_add, nI_leI, nI_ltI, nI_eq, nI_clamp, nI_sub', nI_mul, vpb_n, eq_self, implies_true, grd_t, grd_i, if_pos, if_neg, bI_k, bV_k, bx0, bx1, mh0, mh1, rd_s, rd_o, rd_j, rd_2k, rdL_1k, ↓reduceIte, Bool.false_eq_true, Bool.true_eq_false, Nat.add_eq, Nat.zero_add, Nat.add_zero, not_true_eq_false, not_false_eq_true, e]
        exact Ev.i ⟨i2, rfl⟩
      · rw [if_neg q] at i2
        simp (disch := omega) only [k0, k1, k2, k3, k4, k5, k6, k7, k8, k9, k10, k12, k20, k30, k31, k40, k99, k160, ite_self, nI_add, nI_leI, nI_ltI, nI_eq, nI_clamp, nI_sub', nI_mul, vpb_n, eq_self, implies_true, grd_t, grd_i, if_pos, if_neg, bI_k, bV_k, bx0, bx1, mh0, mh1, rd_s, rd_o, rd_j, rd_2k, rdL_1k, ↓reduceIte, Bool.false_eq_true, Bool.true_eq_false, Nat.add_eq, Nat.zero_add, Nat.add_zero, not_true_eq_false, not_false_eq_true, e]
        exact Ev.i ⟨i2, rfl⟩
    · intro f i p _ hp hinv kk
      obtain ⟨i1, i2⟩ := hinv
      rw [show L - p = (L - (p + 1)) + 1 by omega, hrF] at i2
      have e72 := rm.2.2.2 p hp
      show Ev (f_M_isHeard_5 (f + 1) w (nI s) x (nI i) (nI p)) _
      rw [f_M_isHeard_5, rm.2.1]
      by_cases hb : bt x p = false
      · rw [if_pos hb] at i2
        simp (disch := omega) only [k0, k1, k2, k3, k4, k5, k6, k7, k8, k9, k10, k12, k20, k30, k31, k40, k99, k160, ite_self, nI_add, nI_leI, nI_ltI, nI_eq, nI_clamp, nI_sub', nI_mul, vpb_n, eq_self, implies_true, grd_t, grd_i, if_pos, if_neg, bI_k, bV_k, bx0, bx1, mh0, mh1, rd_s, rd_o, rd_j, rd_2k, rdL_1k, ↓reduceIte, Bool.false_eq_true, Bool.true_eq_false, Nat.add_eq, Nat.zero_add, Nat.add_zero, not_true_eq_false, not_false_eq_true, hb]
        exact kk i ⟨i1, i2⟩
      · rw [if_neg hb] at i2
        by_cases q : i = len
        · rw [if_pos q] at i2
          simp (disch := omega) only [k0, k1, k2, k3, k4, k5, k6, k7, k8, k9, k10, k12, k20, k30, k31, k40, k99, k160, ite_self, nI_add, nI_leI, nI_ltI, nI_eq, nI_clamp, nI_sub', nI_mul, vpb_n, eq_self, implies_true, grd_t, grd_i, if_pos, if_neg, bI_k, bV_k, bx0, bx1, mh0, mh1, rd_s, rd_o, rd_j, rd_2k, rdL_1k, ↓reduceIte, Bool.false_eq_true, Bool.true_eq_false, Nat.add_eq, Nat.zero_add, Nat.add_zero, not_true_eq_false, not_false_eq_true, hb, e]
          exact Ev.i ⟨i2, rfl⟩
        · rw [if_neg q] at i2
          have et : v_M_told w (nI s) (nI i) = E i := (told_e hs8 (by omega)).trans (hE i (by omega))
          by_cases he : E i = S p
          · rw [if_pos he] at i2
            simp (disch := omega) only [k0, k1, k2, k3, k4, k5, k6, k7, k8, k9, k10, k12, k20, k30, k31, k40, k99, k160, ite_self, nI_add, nI_leI, nI_ltI, nI_eq, nI_clamp, nI_sub', nI_mul, vpb_n, eq_self, implies_true, grd_t, grd_i, if_pos, if_neg, bI_k, bV_k, bx0, bx1, mh0, mh1, rd_s, rd_o, rd_j, rd_2k, rdL_1k, ↓reduceIte, Bool.false_eq_true, Bool.true_eq_false, Nat.add_eq, Nat.zero_add, Nat.add_zero, not_true_eq_false, not_false_eq_true, hb, e, et, e72, he]
            exact kk (i + 1) ⟨by omega, i2⟩
          · rw [if_neg he] at i2
            simp (disch := omega) only [k0, k1, k2, k3, k4, k5, k6, k7, k8, k9, k10, k12, k20, k30, k31, k40, k99, k160, ite_self, nI_add, nI_leI, nI_ltI, nI_eq, nI_clamp, nI_sub', nI_mul, vpb_n, eq_self, implies_true, grd_t, grd_i, if_pos, if_neg, bI_k, bV_k, bx0, bx1, mh0, mh1, rd_s, rd_o, rd_j, rd_2k, rdL_1k, ↓reduceIte, Bool.false_eq_true, Bool.true_eq_false, Nat.add_eq, Nat.zero_add, Nat.add_zero, not_true_eq_false, not_false_eq_true, hb, e, et, e72, he]
            exact Ev.i ⟨i2, rfl⟩
  obtain ⟨r, w', e, v, rfl, rfl, rfl⟩ := h
  exact e
theorem places_lt {k a f n : Nat} (hk : k < 7) (hf : f < 3) (hn : n ≤ 30) : placesN k a f n < 2 ^ n := by
  apply Nat.lt_pow_two_of_testBit
  intro i hi
  apply Bool.eq_false_iff.mpr
  intro h
  have := ((places_bit hk hf hn i).mp h).1
  omega
/-! could -/
def couF (J : Nat → Int32) : Nat → Nat → Int32 → Int32
  | 0, _, b => b
  | m + 1, i, b => couF J m (i + 1) (if J i = nI 0 then b else b ||| nI 1 <<< (nI i &&& nI 31))
theorem couF_s {J : Nat → Int32} {n i : Nat} {b : Int32} (h : i < n) : couF J (n - i) i b = couF J (n - (i + 1)) (i + 1) (if J i = nI 0 then b else b ||| nI 1 <<< (nI i &&& nI 31)) := by
  rw [show n - i = (n - (i + 1)) + 1 by omega]
  rfl
theorem sim_could (x1 : Int32) : SIM (fun w => f_X_could w x1) (fun w => f_M_could w x1) := by
  intro sc N w h
  have h0 := h
  obtain ⟨⟨n, L, K, A, F, M, S, g1, g2⟩, g3, g4, g5, g6⟩ := h0
  have hn := g1.2.2.1.1
  have hL := g1.2.2.1.2.1
  have ok := g1.2.2.1
  show EI (f_X_could w x1) (fun v w1 => EI (f_M_could w1 x1) (fun v' w2 => v' = v ∧ Inv sc N w2))
  unfold f_X_could
  rcases row_cases hn g2 x1 with ⟨c, h1, h2, h3, h4⟩ | ⟨s, t, len, hs8, rfl, hr, h3, h4⟩
  · have e1 := noRow_c (w := w) (w' := u_X_refuse w (-nI c)) (xr_o (by omega)) x1
    rw [h4] at e1
    simp (disch := omega) only [k0, k1, k2, k3, k4, k5, k6, k7, k8, k9, k10, k12, k20, k30, k31, k40, k99, k160, ite_self, nI_add, nI_leI, nI_ltI, nI_eq, nI_clamp, nI_sub', nI_mul, vpb_n, eq_self, implies_true, grd_t, grd_i, if_pos, if_neg, bI_k, bV_k, bx0, bx1, mh0, mh1, rd_s, rd_o, rd_j, rd_2k, rdL_1k, ↓reduceIte, Bool.false_eq_true, Bool.true_eq_false, Nat.add_eq, Nat.zero_add, Nat.add_zero, not_true_eq_false, not_false_eq_true, h3, (neg_ne0 h1 (by omega : c ≤ 7)).1, v_ref]
    refine Ev.i ?_
    unfold f_M_could
    simp (disch := omega) only [k0, k1, k2, k3, k4, k5, k6, k7, k8, k9, k10, k12, k20, k30, k31, k40, k99, k160, ite_self, nI_add, nI_leI, nI_ltI, nI_eq, nI_clamp, nI_sub', nI_mul, vpb_n, eq_self, implies_true, grd_t, grd_i, if_pos, if_neg, bI_k, bV_k, bx0, bx1, mh0, mh1, rd_s, rd_o, rd_j, rd_2k, rdL_1k, ↓reduceIte, Bool.false_eq_true, Bool.true_eq_false, Nat.add_eq, Nat.zero_add, Nat.add_zero, not_true_eq_false, not_false_eq_true, e1, (neg_ne0 h1 (by omega : c ≤ 7)).2, v_no]
    exact Ev.i ⟨rfl, inv_ref h h1 (by omega)⟩
  obtain ⟨r1, r2, r3, r4, r5, r6, r7⟩ := hr
  generalize hE : (fun i => (w.2.1 (35 + 2 * s + 1) i).toInt32) = E
  have hE1 : ∀ i, i < len → (w.2.1 (35 + 2 * s + 1) i).toInt32 = E i := fun i _ => by rw [← hE]
  have hE2 : ∀ i, i < len → (w.2.1 65 (160 * s + i)).toInt32 = E i := fun i hi => by rw [← r7 i hi]; exact hE1 i hi
  generalize hJ : (fun i => hrF S E (hs K A F L i) len L 0 0) = J
  have hJ1 : ∀ i, hrF S E (hs K A F L i) len L 0 0 = J i := fun i => by rw [← hJ]
  simp (disch := omega) only [k0, k1, k2, k3, k4, k5, k6, k7, k8, k9, k10, k12, k20, k30, k31, k40, k99, k160, ite_self, nI_add, nI_leI, nI_ltI, nI_eq, nI_clamp, nI_sub', nI_mul, vpb_n, eq_self, implies_true, grd_t, grd_i, if_pos, if_neg, bI_k, bV_k, bx0, bx1, mh0, mh1, rd_s, rd_o, rd_j, rd_2k, rdL_1k, ↓reduceIte, Bool.false_eq_true, Bool.true_eq_false, Nat.add_eq, Nat.zero_add, Nat.add_zero, not_true_eq_false, not_false_eq_true, h3]
  refine Ev.bI (P := fun v w' => v = couF J n 0 (nI 0) ∧ w' = w) ?_ (fun v w1 h1 => ?_)
  · unfold f_Cl_whoHearJust
    refine lp (σ := Int32) (F := fun m b i => f_Cl_whoHearJust_5 1 (35 + 2 * s) m w b (nI i)) (fun b i => couF J (n - i) i b = couF J n 0 (nI 0)) n 0 (nI 0) (by rw [Nat.sub_zero]) (by omega) (by omega) ?_ ?_
    · intro m b hi
      show Ev (f_Cl_whoHearJust_5 1 (35 + 2 * s) (m + 1) w b (nI n)) _
      rw [f_Cl_whoHearJust_5, g1.1.1]
      simp (disch := omega) only [k0, k1, k2, k3, k4, k5, k6, k7, k8, k9, k10, k12, k20, k30, k31, k40, k99, k160, ite_self, nI_add, nI_leI, nI_ltI, nI_eq, nI_clamp, nI_sub', nI_mul, vpb_n, eq_self, implies_true, grd_t, grd_i, if_pos, if_neg, bI_k, bV_k, bx0, bx1, mh0, mh1, rd_s, rd_o, rd_j, rd_2k, rdL_1k, ↓reduceIte, Bool.false_eq_true, Bool.true_eq_false, Nat.add_eq, Nat.zero_add, Nat.add_zero, not_true_eq_false, not_false_eq_true]
      rw [Nat.sub_self] at hi
      exact Ev.i ⟨hi, rfl⟩
    · intro m b i _ hi hinv kk
      rw [couF_s hi] at hinv
      obtain ⟨b1, b2, b3⟩ := ok.2.2 i hi
      show Ev (f_Cl_whoHearJust_5 1 (35 + 2 * s) (m + 1) w b (nI i)) _
      rw [f_Cl_whoHearJust_5, g1.1.1, X_his g1.1 ok hi]
      simp only [bI_k]
      have ej := X_just (E := E) g1.1 hL hs8 r2 r5 hE1 (places_lt (a := A i) b1 b3 hL)
      rw [show f_Cl_isJust w 1 (hs K A F L i) (35 + 2 * s) = some (some (.int (J i)), w) from ej.trans (by rw [← hJ1]; rfl)]
      simp only [bI_k]
      by_cases q : J i = nI 0
      · rw [if_pos q] at hinv
        simp (disch := omega) only [k0, k1, k2, k3, k4, k5, k6, k7, k8, k9, k10, k12, k20, k30, k31, k40, k99, k160, ite_self, nI_add, nI_leI, nI_ltI, nI_eq, nI_clamp, nI_sub', nI_mul, vpb_n, eq_self, implies_true, grd_t, grd_i, if_pos, if_neg, bI_k, bV_k, bx0, bx1, mh0, mh1, rd_s, rd_o, rd_j, rd_2k, rdL_1k, ↓reduceIte, Bool.false_eq_true, Bool.true_eq_false, Nat.add_eq, Nat.zero_add, Nat.add_zero, not_true_eq_false, not_false_eq_true, q]
        exact kk _ hinv
      · rw [if_neg q] at hinv
        simp (disch := omega) only [k0, k1, k2, k3, k4, k5, k6, k7, k8, k9, k10, k12, k20, k30, k31, k40, k99, k160, ite_self, nI_add, nI_leI, nI_ltI, nI_eq, nI_clamp, nI_sub', nI_mul, vpb_n, eq_self, implies_true, grd_t, grd_i, if_pos, if_neg, bI_k, bV_k, bx0, bx1, mh0, mh1, rd_s, rd_o, rd_j, rd_2k, rdL_1k, ↓reduceIte, Bool.false_eq_true, Bool.true_eq_false, Nat.add_eq, Nat.zero_add, Nat.add_zero, not_true_eq_false, not_false_eq_true, q]
        exact kk _ hinv
  obtain ⟨rfl, rfl⟩ := h1
  refine Ev.i ?_
  unfold f_M_could
  simp (disch := omega) only [k0, k1, k2, k3, k4, k5, k6, k7, k8, k9, k10, k12, k20, k30, k31, k40, k99, k160, ite_self, nI_add, nI_leI, nI_ltI, nI_eq, nI_clamp, nI_sub', nI_mul, vpb_n, eq_self, implies_true, grd_t, grd_i, if_pos, if_neg, bI_k, bV_k, bx0, bx1, mh0, mh1, rd_s, rd_o, rd_j, rd_2k, rdL_1k, ↓reduceIte, Bool.false_eq_true, Bool.true_eq_false, Nat.add_eq, Nat.zero_add, Nat.add_zero, not_true_eq_false, not_false_eq_true, h4]
  refine lp (σ := Int32) (F := fun m b i => f_M_could_21 m w1 (nI s) b (nI i)) (fun b i => couF J (n - i) i b = couF J n 0 (nI 0)) n 0 (nI 0) (by rw [Nat.sub_zero]) (by omega) (by omega) ?_ ?_
  · intro m b hi
    show Ev (f_M_could_21 (m + 1) w1 (nI s) b (nI n)) _
    rw [f_M_could_21, g1.2.1.1]
    simp (disch := omega) only [k0, k1, k2, k3, k4, k5, k6, k7, k8, k9, k10, k12, k20, k30, k31, k40, k99, k160, ite_self, nI_add, nI_leI, nI_ltI, nI_eq, nI_clamp, nI_sub', nI_mul, vpb_n, eq_self, implies_true, grd_t, grd_i, if_pos, if_neg, bI_k, bV_k, bx0, bx1, mh0, mh1, rd_s, rd_o, rd_j, rd_2k, rdL_1k, ↓reduceIte, Bool.false_eq_true, Bool.true_eq_false, Nat.add_eq, Nat.zero_add, Nat.add_zero, not_true_eq_false, not_false_eq_true]
    rw [Nat.sub_self] at hi
    exact Ev.i ⟨hi, h⟩
  · intro m b i _ hi hinv kk
    rw [couF_s hi] at hinv
    show Ev (f_M_could_21 (m + 1) w1 (nI s) b (nI i)) _
    rw [f_M_could_21, g1.2.1.1, M_hisOf g1.2.1 ok hi]
    simp only [bI_k]
    rw [M_heardRow (E := E) g1.2.1 hL hs8 r2 r6 hE2, hJ1]
    simp only [bI_k]
    by_cases q : J i = nI 0
    · rw [if_pos q] at hinv
      simp (disch := omega) only [k0, k1, k2, k3, k4, k5, k6, k7, k8, k9, k10, k12, k20, k30, k31, k40, k99, k160, ite_self, nI_add, nI_leI, nI_ltI, nI_eq, nI_clamp, nI_sub', nI_mul, vpb_n, eq_self, implies_true, grd_t, grd_i, if_pos, if_neg, bI_k, bV_k, bx0, bx1, mh0, mh1, rd_s, rd_o, rd_j, rd_2k, rdL_1k, ↓reduceIte, Bool.false_eq_true, Bool.true_eq_false, Nat.add_eq, Nat.zero_add, Nat.add_zero, not_true_eq_false, not_false_eq_true, q]
      exact kk _ hinv
    · rw [if_neg q] at hinv
      simp (disch := omega) only [k0, k1, k2, k3, k4, k5, k6, k7, k8, k9, k10, k12, k20, k30, k31, k40, k99, k160, ite_self, nI_add, nI_leI, nI_ltI, nI_eq, nI_clamp, nI_sub', nI_mul, vpb_n, eq_self, implies_true, grd_t, grd_i, if_pos, if_neg, bI_k, bV_k, bx0, bx1, mh0, mh1, rd_s, rd_o, rd_j, rd_2k, rdL_1k, ↓reduceIte, Bool.false_eq_true, Bool.true_eq_false, Nat.add_eq, Nat.zero_add, Nat.add_zero, not_true_eq_false, not_false_eq_true, q]
      exact kk _ hinv
/-! count -/
def cA (J : Nat → Nat → Int32) (f : Nat) : Nat → Nat
  | 0 => 0
  | a + 1 => cA J f a + if J f a = nI 0 then 0 else 1
def cTo (J : Nat → Nat → Int32) : Nat → Nat
  | 0 => 0
  | f + 1 => cTo J f + cA J f 31
theorem cA_le (J : Nat → Nat → Int32) (f : Nat) : ∀ a, cA J f a ≤ a := by
  intro a
  induction a with
  | zero => exact Nat.le_refl _
  | succ a ih =>
    rw [cA]
    split <;> omega
theorem cTo_le (J : Nat → Nat → Int32) : ∀ f, cTo J f ≤ 31 * f := by
  intro f
  induction f with
  | zero => exact Nat.le_refl _
  | succ f ih =>
    have := cA_le J f 31
    rw [cTo]
    omega
def ffF (J : Nat → Nat → Int32) : Nat → Nat → Int32
  | 0, _ => -nI 1
  | m + 1, u => if J (u / 31) (30 - u % 31) = nI 0 then ffF J m (u + 1) else nI (100 * (u / 31) + (30 - u % 31))
theorem X_slip {w : MW} {n L s len f a : Nat} {K A F : Nat → Nat} {M S E : Nat → Int32} (rx : RX 1 w n L K A F M S) (hL : L ≤ 30) (hs8 : s < 8) (hl : len ≤ 160) (e : w.1 (35 + 2 * s) 1 = nI len) (hE : ∀ i, i < len → (w.2.1 (35 + 2 * s + 1) i).toInt32 = E i) (hf : f < 3) (ha : a < 31) :
    f_Cl_slipHearsJust w 1 (nI f) (nI a) (35 + 2 * s) = some (some (.int (hrF S E (nI (placesN 4 a f L)) len L 0 0)), w) := by
  unfold f_Cl_slipHearsJust
  rw [rx.2.1, show f_X_placesBy w (4 : Int32) (nI a) (nI f) (nI L) = _ from f_placesBy w (k := 4) (by omega) (by omega) hf (by omega)]
  simp only [bI_k]
  rw [X_just (E := E) rx hL hs8 hl e hE (places_lt (by omega) hf hL)]
  simp only [bI_k]
  exact grd_i (hr01 _ _ _)
