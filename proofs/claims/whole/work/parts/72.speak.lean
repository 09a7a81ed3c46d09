/-! speak -/
def spL (x : Int32) : Nat := if x = -nI 1 then 0 else if x ≤ nI 999 then 3 else 4
def okS (x : Int32) : Prop := x = -nI 1 ∨ ∃ v, v < 2000 ∧ x = nI v
theorem k999 : (999 : Int32) = nI 999 := by decide
theorem k1000 : (1000 : Int32) = nI 1000 := by decide
theorem k1999 : (1999 : Int32) = nI 1999 := by decide
theorem k2000 : (2000 : Int32) = nI 2000 := by decide
theorem okS_cases (x : Int32) : okS x ∨ (x < -nI 1 ∨ nI 2000 ≤ x) := by
  by_cases h : x < -nI 1
  · exact .inr (.inl h)
  · by_cases h2 : nI 2000 ≤ x
    · exact .inr (.inr h2)
    · refine .inl ?_
      by_cases h3 : x = -nI 1
      · exact .inl h3
      · refine .inr ?_
        have e1 : (-nI 1).toInt = -1 := by decide
        have h4 : ¬ x.toInt < -1 := fun q => h (by rw [Int32.lt_iff_toInt_lt, e1]; exact q)
        have h5 : x.toInt ≠ -1 := fun q => h3 (Int32.toInt_inj.mp (by rw [q, e1]))
        obtain ⟨v, hv, rfl⟩ := nI_of (x := x) (fun q => by
          rw [Int32.lt_iff_toInt_lt, show (0 : Int32).toInt = 0 by decide] at q
          omega)
        rw [nI_leI (by omega) hv] at h2
        exact ⟨v, by omega, rfl⟩
theorem may_g {w : MW} {x : Int32} (h : okS x) : v_X_maySpeak w x = nI 1 ∧ v_M_isSense w x = nI 1 := by
  unfold v_X_maySpeak v_M_isSense v_M_within
  rcases h with rfl | ⟨v, hv, rfl⟩
  · exact ⟨by decide, by decide⟩
  · have e : ¬ nI v < -nI 1 := by
      rw [Int32.lt_iff_toInt_lt, nI_toInt (by omega), show (-nI 1).toInt = -1 by decide]
      omega
    simp (disch := omega) only [k0, k1, k2, k3, k4, k5, k6, k7, k8, k9, k10, k12, k20, k30, k31, k40, k99, k160, ite_self, nI_add, nI_leI, nI_ltI, nI_eq, nI_clamp, nI_sub', nI_mul, vpb_n, eq_self, implies_true, grd_t, grd_i, if_pos, if_neg, bI_k, bV_k, bx0, bx1, mh0, mh1, rd_s, rd_o, rd_j, rd_2k, rdL_1k, ↓reduceIte, Bool.false_eq_true, Bool.true_eq_false, Nat.add_eq, Nat.zero_add, Nat.add_zero, not_true_eq_false, not_false_eq_true, e, k2000, k1999]
    exact ⟨trivial, trivial⟩
theorem may_b {w : MW} {x : Int32} (h : x < -nI 1 ∨ nI 2000 ≤ x) : v_X_maySpeak w x = nI 0 ∧ v_M_isSense w x = nI 0 := by
  unfold v_X_maySpeak v_M_isSense v_M_within
  rcases h with h | h
  · simp (disch := omega) only [k0, k1, k2, k3, k4, k5, k6, k7, k8, k9, k10, k12, k20, k30, k31, k40, k99, k160, ite_self, nI_add, nI_leI, nI_ltI, nI_eq, nI_clamp, nI_sub', nI_mul, vpb_n, eq_self, implies_true, grd_t, grd_i, if_pos, if_neg, bI_k, bV_k, bx0, bx1, mh0, mh1, rd_s, rd_o, rd_j, rd_2k, rdL_1k, ↓reduceIte, Bool.false_eq_true, Bool.true_eq_false, Nat.add_eq, Nat.zero_add, Nat.add_zero, not_true_eq_false, not_false_eq_true, h]
    exact ⟨trivial, trivial⟩
  · have h2 : nI 1999 < x := bad_lt (n := 1999) (by omega) h
    by_cases c : x < -nI 1
    · simp (disch := omega) only [k0, k1, k2, k3, k4, k5, k6, k7, k8, k9, k10, k12, k20, k30, k31, k40, k99, k160, ite_self, nI_add, nI_leI, nI_ltI, nI_eq, nI_clamp, nI_sub', nI_mul, vpb_n, eq_self, implies_true, grd_t, grd_i, if_pos, if_neg, bI_k, bV_k, bx0, bx1, mh0, mh1, rd_s, rd_o, rd_j, rd_2k, rdL_1k, ↓reduceIte, Bool.false_eq_true, Bool.true_eq_false, Nat.add_eq, Nat.zero_add, Nat.add_zero, not_true_eq_false, not_false_eq_true, c]
      exact ⟨trivial, trivial⟩
    · simp (disch := omega) only [k0, k1, k2, k3, k4, k5, k6, k7, k8, k9, k10, k12, k20, k30, k31, k40, k99, k160, ite_self, nI_add, nI_leI, nI_ltI, nI_eq, nI_clamp, nI_sub', nI_mul, vpb_n, eq_self, implies_true, grd_t, grd_i, if_pos, if_neg, bI_k, bV_k, bx0, bx1, mh0, mh1, rd_s, rd_o, rd_j, rd_2k, rdL_1k, ↓reduceIte, Bool.false_eq_true, Bool.true_eq_false, Nat.add_eq, Nat.zero_add, Nat.add_zero, not_true_eq_false, not_false_eq_true, c, h, h2, k2000, k1999]
      exact ⟨trivial, trivial⟩
theorem own_L {w : MW} {x : Int32} (h : okS x) : v_X_ownLength w x = nI (spL x) := by
  unfold v_X_ownLength spL
  rcases h with rfl | ⟨v, hv, rfl⟩
  · decide
  · have e := nI_ne_m1 (m := v) (by omega)
    by_cases c : v ≤ 999
    · simp (disch := omega) only [k0, k1, k2, k3, k4, k5, k6, k7, k8, k9, k10, k12, k20, k30, k31, k40, k99, k160, ite_self, nI_add, nI_leI, nI_ltI, nI_eq, nI_clamp, nI_sub', nI_mul, vpb_n, eq_self, implies_true, grd_t, grd_i, if_pos, if_neg, bI_k, bV_k, bx0, bx1, mh0, mh1, rd_s, rd_o, rd_j, rd_2k, rdL_1k, ↓reduceIte, Bool.false_eq_true, Bool.true_eq_false, Nat.add_eq, Nat.zero_add, Nat.add_zero, not_true_eq_false, not_false_eq_true, e, k1000]
    · simp (disch := omega) only [k0, k1, k2, k3, k4, k5, k6, k7, k8, k9, k10, k12, k20, k30, k31, k40, k99, k160, ite_self, nI_add, nI_leI, nI_ltI, nI_eq, nI_clamp, nI_sub', nI_mul, vpb_n, eq_self, implies_true, grd_t, grd_i, if_pos, if_neg, bI_k, bV_k, bx0, bx1, mh0, mh1, rd_s, rd_o, rd_j, rd_2k, rdL_1k, ↓reduceIte, Bool.false_eq_true, Bool.true_eq_false, Nat.add_eq, Nat.zero_add, Nat.add_zero, not_true_eq_false, not_false_eq_true, e, k1000]
theorem spk_L {w : MW} {x : Int32} {f : Int32} (h : okS x) : v_M_speaks w x f = nI (spL x) := by
  unfold v_M_speaks spL
  rcases h with rfl | ⟨v, hv, rfl⟩
  · decide
  · have e := nI_ne_m1 (m := v) (by omega)
    by_cases c : v ≤ 999
    · simp (disch := omega) only [k0, k1, k2, k3, k4, k5, k6, k7, k8, k9, k10, k12, k20, k30, k31, k40, k99, k160, ite_self, nI_add, nI_leI, nI_ltI, nI_eq, nI_clamp, nI_sub', nI_mul, vpb_n, eq_self, implies_true, grd_t, grd_i, if_pos, if_neg, bI_k, bV_k, bx0, bx1, mh0, mh1, rd_s, rd_o, rd_j, rd_2k, rdL_1k, ↓reduceIte, Bool.false_eq_true, Bool.true_eq_false, Nat.add_eq, Nat.zero_add, Nat.add_zero, not_true_eq_false, not_false_eq_true, e, k999]
    · simp (disch := omega) only [k0, k1, k2, k3, k4, k5, k6, k7, k8, k9, k10, k12, k20, k30, k31, k40, k99, k160, ite_self, nI_add, nI_leI, nI_ltI, nI_eq, nI_clamp, nI_sub', nI_mul, vpb_n, eq_self, implies_true, grd_t, grd_i, if_pos, if_neg, bI_k, bV_k, bx0, bx1, mh0, mh1, rd_s, rd_o, rd_j, rd_2k, rdL_1k, ↓reduceIte, Bool.false_eq_true, Bool.true_eq_false, Nat.add_eq, Nat.zero_add, Nat.add_zero, not_true_eq_false, not_false_eq_true, e, k999]
def spW (x : Int32) (t : Nat) : Int32 := if spL x ≤ t then nI 3 else match x.toNatClampNeg, t with
  | v, 0 => nI (4 * (v / 100 % 10))
  | v, 1 => nI (4 * (v / 10 % 10) + 1)
  | v, t => if t + 1 = spL x then nI (4 * (v % 10)) else nI 2
theorem spL_le (x : Int32) : spL x ≤ 4 := by
  unfold spL
  split
  · omega
  split <;> omega
theorem spL_1 {v : Nat} (hv : v < 2000) (h : v ≤ 999) : spL (nI v) = 3 := by
  unfold spL
  rw [if_neg (nI_ne_m1 (by omega)), if_pos (nI_le h (by omega))]
theorem spL_2 {v : Nat} (hv : v < 2000) (h : ¬ v ≤ 999) : spL (nI v) = 4 := by
  unfold spL
  rw [if_neg (nI_ne_m1 (by omega)), if_neg (nI_ge (by omega) (by omega))]
theorem spL_0 : spL (-nI 1) = 0 := by decide
theorem X_ownWord {w : MW} {x : Int32} (h : okS x) {t : Nat} (ht : t < 4) : v_X_ownWord w x (nI t) = spW x t := by
  unfold v_X_ownWord
  rw [own_L h]
  have hl := spL_le x
  by_cases c : spL x ≤ t
  · unfold spW
    rw [if_pos c]
    simp (disch := omega) only [k0, k1, k2, k3, k4, k5, k6, k7, k8, k9, k10, k12, k20, k30, k31, k40, k99, k160, ite_self, nI_add, nI_leI, nI_ltI, nI_eq, nI_clamp, nI_sub', nI_mul, vpb_n, eq_self, implies_true, grd_t, grd_i, if_pos, if_neg, bI_k, bV_k, bx0, bx1, mh0, mh1, rd_s, rd_o, rd_j, rd_2k, rdL_1k, ↓reduceIte, Bool.false_eq_true, Bool.true_eq_false, Nat.add_eq, Nat.zero_add, Nat.add_zero, not_true_eq_false, not_false_eq_true]
  · rcases h with rfl | ⟨v, hv, rfl⟩
    · rw [spL_0] at c
      omega
    · unfold spW
      rw [if_neg c, nI_clamp (by omega)]
      have d1 : nI v / nI 100 = nI (v / 100) := pk_div (by omega) (by omega) (by omega)
      have d2 : nI v / nI 10 = nI (v / 10) := pk_div (by omega) (by omega) (by omega)
      have m1 : nI (v / 100) - nI (v / 100) / nI 10 * nI 10 = nI (v / 100 % 10) := pk_rem (by omega) (by omega) (by omega)
      have m2 : nI (v / 10) - nI (v / 10) / nI 10 * nI 10 = nI (v / 10 % 10) := pk_rem (by omega) (by omega) (by omega)
      have m3 : nI v - nI (v / 10) * nI 10 = nI (v % 10) := by
        rw [← d2]
        exact pk_rem (by omega) (by omega) (by omega)
      by_cases c9 : v ≤ 999
      · rw [spL_1 hv c9] at c ⊢
        rcases (show t = 0 ∨ t = 1 ∨ t = 2 by omega) with rfl | rfl | rfl
        · simp (disch := omega) only [k0, k1, k2, k3, k4, k5, k6, k7, k8, k9, k10, k12, k20, k30, k31, k40, k99, k160, ite_self, nI_add, nI_leI, nI_ltI, nI_eq, nI_clamp, nI_sub', nI_mul, vpb_n, eq_self, implies_true, grd_t, grd_i, if_pos, if_neg, bI_k, bV_k, bx0, bx1, mh0, mh1, rd_s, rd_o, rd_j, rd_2k, rdL_1k, ↓reduceIte, Bool.false_eq_true, Bool.true_eq_false, Nat.add_eq, Nat.zero_add, Nat.add_zero, not_true_eq_false, not_false_eq_true, k100, d1, m1]
        · simp (disch := omega) only [k0, k1, k2, k3, k4, k5, k6, k7, k8, k9, k10, k12, k20, k30, k31, k40, k99, k160, ite_self, nI_add, nI_leI, nI_ltI, nI_eq, nI_clamp, nI_sub', nI_mul, vpb_n, eq_self, implies_true, grd_t, grd_i, if_pos, if_neg, bI_k, bV_k, bx0, bx1, mh0, mh1, rd_s, rd_o, rd_j, rd_2k, rdL_1k, ↓reduceIte, Bool.false_eq_true, Bool.true_eq_false, Nat.add_eq, Nat.zero_add, Nat.add_zero, not_true_eq_false, not_false_eq_true, d2, m2]
        · simp (disch := omega) only [k0, k1, k2, k3, k4, k5, k6, k7, k8, k9, k10, k12, k20, k30, k31, k40, k99, k160, ite_self, nI_add, nI_leI, nI_ltI, nI_eq, nI_clamp, nI_sub', nI_mul, vpb_n, eq_self, implies_true, grd_t, grd_i, if_pos, if_neg, bI_k, bV_k, bx0, bx1, mh0, mh1, rd_s, rd_o, rd_j, rd_2k, rdL_1k, ↓reduceIte, Bool.false_eq_true, Bool.true_eq_false, Nat.add_eq, Nat.zero_add, Nat.add_zero, not_true_eq_false, not_false_eq_true, d2, m3]
          omega
      · rw [spL_2 hv c9] at c ⊢
        rcases (show t = 0 ∨ t = 1 ∨ t = 2 ∨ t = 3 by omega) with rfl | rfl | rfl | rfl
        · simp (disch := omega) only [k0, k1, k2, k3, k4, k5, k6, k7, k8, k9, k10, k12, k20, k30, k31, k40, k99, k160, ite_self, nI_add, nI_leI, nI_ltI, nI_eq, nI_clamp, nI_sub', nI_mul, vpb_n, eq_self, implies_true, grd_t, grd_i, if_pos, if_neg, bI_k, bV_k, bx0, bx1, mh0, mh1, rd_s, rd_o, rd_j, rd_2k, rdL_1k, ↓reduceIte, Bool.false_eq_true, Bool.true_eq_false, Nat.add_eq, Nat.zero_add, Nat.add_zero, not_true_eq_false, not_false_eq_true, k100, d1, m1]
        · simp (disch := omega) only [k0, k1, k2, k3, k4, k5, k6, k7, k8, k9, k10, k12, k20, k30, k31, k40, k99, k160, ite_self, nI_add, nI_leI, nI_ltI, nI_eq, nI_clamp, nI_sub', nI_mul, vpb_n, eq_self, implies_true, grd_t, grd_i, if_pos, if_neg, bI_k, bV_k, bx0, bx1, mh0, mh1, rd_s, rd_o, rd_j, rd_2k, rdL_1k, ↓reduceIte, Bool.false_eq_true, Bool.true_eq_false, Nat.add_eq, Nat.zero_add, Nat.add_zero, not_true_eq_false, not_false_eq_true, d2, m2]
        · simp (disch := omega) only [k0, k1, k2, k3, k4, k5, k6, k7, k8, k9, k10, k12, k20, k30, k31, k40, k99, k160, ite_self, nI_add, nI_leI, nI_ltI, nI_eq, nI_clamp, nI_sub', nI_mul, vpb_n, eq_self, implies_true, grd_t, grd_i, if_pos, if_neg, bI_k, bV_k, bx0, bx1, mh0, mh1, rd_s, rd_o, rd_j, rd_2k, rdL_1k, ↓reduceIte, Bool.false_eq_true, Bool.true_eq_false, Nat.add_eq, Nat.zero_add, Nat.add_zero, not_true_eq_false, not_false_eq_true]
        · simp (disch := omega) only [k0, k1, k2, k3, k4, k5, k6, k7, k8, k9, k10, k12, k20, k30, k31, k40, k99, k160, ite_self, nI_add, nI_leI, nI_ltI, nI_eq, nI_clamp, nI_sub', nI_mul, vpb_n, eq_self, implies_true, grd_t, grd_i, if_pos, if_neg, bI_k, bV_k, bx0, bx1, mh0, mh1, rd_s, rd_o, rd_j, rd_2k, rdL_1k, ↓reduceIte, Bool.false_eq_true, Bool.true_eq_false, Nat.add_eq, Nat.zero_add, Nat.add_zero, not_true_eq_false, not_false_eq_true, d2, m3]
          omega
theorem M_speaks {w : MW} {x : Int32} (h : okS x) {f : Nat} (hf : f < 3) : (∀ t, t < 4 → (u_M_speaks w x (nI f)).1 79 (3 * t + f) = if t < spL x then spW x t else w.1 79 (3 * t + f)) ∧ (∀ a j, ¬ (a = 79 ∧ j % 3 = f) → (u_M_speaks w x (nI f)).1 a j = w.1 a j) ∧ (u_M_speaks w x (nI f)).2 = w.2 := by
  unfold u_M_speaks
  rcases h with rfl | ⟨v, hv, rfl⟩
  · rw [spL_0]
    simp (disch := omega) only [k0, k1, k2, k3, k4, k5, k6, k7, k8, k9, k10, k12, k20, k30, k31, k40, k99, k160, ite_self, nI_add, nI_leI, nI_ltI, nI_eq, nI_clamp, nI_sub', nI_mul, vpb_n, eq_self, implies_true, grd_t, grd_i, if_pos, if_neg, bI_k, bV_k, bx0, bx1, mh0, mh1, rd_s, rd_o, rd_j, rd_2k, rdL_1k, ↓reduceIte, Bool.false_eq_true, Bool.true_eq_false, Nat.add_eq, Nat.zero_add, Nat.add_zero, not_true_eq_false, not_false_eq_true]
    exact ⟨trivial, trivial, trivial⟩
  · have e := nI_ne_m1 (m := v) (by omega)
    have d1 : nI v / nI 100 = nI (v / 100) := pk_div (by omega) (by omega) (by omega)
    have d2 : nI v / nI 10 = nI (v / 10) := pk_div (by omega) (by omega) (by omega)
    have m1 : nI (v / 100) - nI (v / 100) / nI 10 * nI 10 = nI (v / 100 % 10) := pk_rem (by omega) (by omega) (by omega)
    have m2 : nI (v / 10) - nI (v / 10) / nI 10 * nI 10 = nI (v / 10 % 10) := pk_rem (by omega) (by omega) (by omega)
    have m3 : nI v - nI (v / 10) * nI 10 = nI (v % 10) := by
      rw [← d2]
      exact pk_rem (by omega) (by omega) (by omega)
    by_cases c9 : v ≤ 999
    · have hl := spL_1 hv c9
      rw [hl]
      simp (disch := omega) only [k0, k1, k2, k3, k4, k5, k6, k7, k8, k9, k10, k12, k20, k30, k31, k40, k99, k160, ite_self, nI_add, nI_leI, nI_ltI, nI_eq, nI_clamp, nI_sub', nI_mul, vpb_n, eq_self, implies_true, grd_t, grd_i, if_pos, if_neg, bI_k, bV_k, bx0, bx1, mh0, mh1, rd_s, rd_o, rd_j, rd_2k, rdL_1k, ↓reduceIte, Bool.false_eq_true, Bool.true_eq_false, Nat.add_eq, Nat.zero_add, Nat.add_zero, not_true_eq_false, not_false_eq_true, e, k999, k100, d1, d2, m1, m2, m3]
      refine ⟨fun t ht => ?_, fun a j q => ?_, trivial⟩
      · rw [rd_ite, rd_ite, rd_ite]
        unfold spW
        rw [hl, nI_clamp (by omega)]
        rcases (show t = 0 ∨ t = 1 ∨ t = 2 ∨ t = 3 by omega) with rfl | rfl | rfl | rfl
        · rw [if_neg (by omega), if_neg (by omega), if_pos (by omega), if_pos (by omega), if_neg (by omega)]
          exact congrArg nI (by omega)
        · rw [if_neg (by omega), if_pos (by omega), if_pos (by omega), if_neg (by omega)]
          exact congrArg nI (by omega)
        · rw [if_pos (by omega), if_pos (by omega), if_neg (by omega)]
          show _ = if 2 + 1 = 3 then _ else _
          rw [if_pos rfl]
          exact congrArg nI (by omega)
        · rw [if_neg (by omega), if_neg (by omega), if_neg (by omega), if_neg (by omega)]
      · rw [rd_ite, rd_ite, rd_ite, if_neg (by omega), if_neg (by omega), if_neg (by omega)]
    · have hl := spL_2 hv c9
      rw [hl]
      simp (disch := omega) only [k0, k1, k2, k3, k4, k5, k6, k7, k8, k9, k10, k12, k20, k30, k31, k40, k99, k160, ite_self, nI_add, nI_leI, nI_ltI, nI_eq, nI_clamp, nI_sub', nI_mul, vpb_n, eq_self, implies_true, grd_t, grd_i, if_pos, if_neg, bI_k, bV_k, bx0, bx1, mh0, mh1, rd_s, rd_o, rd_j, rd_2k, rdL_1k, ↓reduceIte, Bool.false_eq_true, Bool.true_eq_false, Nat.add_eq, Nat.zero_add, Nat.add_zero, not_true_eq_false, not_false_eq_true, e, k999, k100, d1, d2, m1, m2, m3]
      refine ⟨fun t ht => ?_, fun a j q => ?_, trivial⟩
      · rw [rd_ite, rd_ite, rd_ite, rd_ite]
        unfold spW
        rw [hl, nI_clamp (by omega)]
        rcases (show t = 0 ∨ t = 1 ∨ t = 2 ∨ t = 3 by omega) with rfl | rfl | rfl | rfl
        · rw [if_neg (by omega), if_neg (by omega), if_neg (by omega), if_pos (by omega), if_pos (by omega), if_neg (by omega)]
          exact congrArg nI (by omega)
        · rw [if_neg (by omega), if_neg (by omega), if_pos (by omega), if_pos (by omega), if_neg (by omega)]
          exact congrArg nI (by omega)
        · rw [if_neg (by omega), if_pos (by omega), if_pos (by omega), if_neg (by omega)]
          show _ = if 2 + 1 = 4 then _ else _
          rw [if_neg (by omega)]
        · rw [if_pos (by omega), if_pos (by omega), if_neg (by omega)]
          show _ = if 3 + 1 = 4 then _ else _
          rw [if_pos rfl]
          exact congrArg nI (by omega)
      · rw [rd_ite, rd_ite, rd_ite, rd_ite, if_neg (by omega), if_neg (by omega), if_neg (by omega), if_neg (by omega)]
def mx3 (a b c : Nat) : Nat := if a < (if b < c then c else b) then (if b < c then c else b) else a
theorem mx_nI {a b c : Nat} (ha : a ≤ 4) (hb : b ≤ 4) (hc : c ≤ 4) : (if nI a < (if nI b < nI c then nI c else nI b) then (if nI b < nI c then nI c else nI b) else nI a) = nI (mx3 a b c) := by
  unfold mx3
  have e : (if nI b < nI c then nI c else nI b) = nI (if b < c then c else b) := by
    by_cases q : b < c
    · rw [if_pos q, if_pos (nI_lt q (by omega))]
    · rw [if_neg q, if_neg (nI_nlt (by omega) (by omega))]
  rw [e]
  have hle : (if b < c then c else b) ≤ 4 := by split <;> omega
  generalize (if b < c then c else b) = d at hle ⊢
  by_cases q : a < d
  · rw [if_pos q, if_pos (nI_lt q (by omega))]
  · rw [if_neg q, if_neg (nI_nlt (by omega) (by omega))]
theorem mx_le {a b c : Nat} (ha : a ≤ 4) (hb : b ≤ 4) (hc : c ≤ 4) : mx3 a b c ≤ 4 := by
  unfold mx3
  by_cases h : b < c
  · simp only [if_pos h]
    split <;> omega
  · simp only [if_neg h]
    split <;> omega
theorem mx_ge (a b c : Nat) : a ≤ mx3 a b c ∧ b ≤ mx3 a b c ∧ c ≤ mx3 a b c := by
  unfold mx3
  by_cases h : b < c
  · simp only [if_pos h]
    split <;> omega
  · simp only [if_neg h]
    split <;> omega
theorem sim_speak (x1 x2 x3 x4 : Int32) : SIM (fun w => f_X_speak w x1 x2 x3 x4) (fun w => f_M_speak w x1 x2 x3 x4) := by
  intro sc N w h
  show EI (f_X_speak w x1 x2 x3 x4) (fun v w1 => EI (f_M_speak w1 x1 x2 x3 x4) (fun v' w2 => v' = v ∧ Inv sc N w2))
  have r6 : f_M_speak (u_X_refuse w (-nI 6)) x1 x2 x3 x4 = some (some (.int (-nI 6)), u_M_no (u_X_refuse w (-nI 6)) (-nI 6)) → EI (some (some (.int (-nI 6)), u_X_refuse w (-nI 6))) (fun v w1 => EI (f_M_speak w1 x1 x2 x3 x4) (fun v' w2 => v' = v ∧ Inv sc N w2)) := by
    intro e
    refine Ev.i ?_
    rw [e]
    exact Ev.i ⟨rfl, inv_ref h (by omega) (by omega)⟩
  rcases okS_cases x1 with o1 | b1
  case inr =>
    have e1 := fun w => may_b (w := w) b1
    unfold f_X_speak
    simp (disch := omega) only [k0, k1, k2, k3, k4, k5, k6, k7, k8, k9, k10, k12, k20, k30, k31, k40, k99, k160, ite_self, nI_add, nI_leI, nI_ltI, nI_eq, nI_clamp, nI_sub', nI_mul, vpb_n, eq_self, implies_true, grd_t, grd_i, if_pos, if_neg, bI_k, bV_k, bx0, bx1, mh0, mh1, rd_s, rd_o, rd_j, rd_2k, rdL_1k, ↓reduceIte, Bool.false_eq_true, Bool.true_eq_false, Nat.add_eq, Nat.zero_add, Nat.add_zero, not_true_eq_false, not_false_eq_true, (e1 w).1, v_ref]
    refine r6 ?_
    unfold f_M_speak
    simp (disch := omega) only [k0, k1, k2, k3, k4, k5, k6, k7, k8, k9, k10, k12, k20, k30, k31, k40, k99, k160, ite_self, nI_add, nI_leI, nI_ltI, nI_eq, nI_clamp, nI_sub', nI_mul, vpb_n, eq_self, implies_true, grd_t, grd_i, if_pos, if_neg, bI_k, bV_k, bx0, bx1, mh0, mh1, rd_s, rd_o, rd_j, rd_2k, rdL_1k, ↓reduceIte, Bool.false_eq_true, Bool.true_eq_false, Nat.add_eq, Nat.zero_add, Nat.add_zero, not_true_eq_false, not_false_eq_true, (e1 (u_X_refuse w (-nI 6))).2, v_no]
  rcases okS_cases x2 with o2 | b2
  case inr =>
    have e1 := fun w => may_g (w := w) o1
    have e2 := fun w => may_b (w := w) b2
    unfold f_X_speak
    simp (disch := omega) only [k0, k1, k2, k3, k4, k5, k6, k7, k8, k9, k10, k12, k20, k30, k31, k40, k99, k160, ite_self, nI_add, nI_leI, nI_ltI, nI_eq, nI_clamp, nI_sub', nI_mul, vpb_n, eq_self, implies_true, grd_t, grd_i, if_pos, if_neg, bI_k, bV_k, bx0, bx1, mh0, mh1, rd_s, rd_o, rd_j, rd_2k, rdL_1k, ↓reduceIte, Bool.false_eq_true, Bool.true_eq_false, Nat.add_eq, Nat.zero_add, Nat.add_zero, not_true_eq_false, not_false_eq_true, (e1 w).1, (e2 w).1, v_ref]
    refine r6 ?_
    unfold f_M_speak
    simp (disch := omega) only [k0, k1, k2, k3, k4, k5, k6, k7, k8, k9, k10, k12, k20, k30, k31, k40, k99, k160, ite_self, nI_add, nI_leI, nI_ltI, nI_eq, nI_clamp, nI_sub', nI_mul, vpb_n, eq_self, implies_true, grd_t, grd_i, if_pos, if_neg, bI_k, bV_k, bx0, bx1, mh0, mh1, rd_s, rd_o, rd_j, rd_2k, rdL_1k, ↓reduceIte, Bool.false_eq_true, Bool.true_eq_false, Nat.add_eq, Nat.zero_add, Nat.add_zero, not_true_eq_false, not_false_eq_true, (e1 (u_X_refuse w (-nI 6))).2, (e2 (u_X_refuse w (-nI 6))).2, v_no]
  rcases okS_cases x3 with o3 | b3
  case inr =>
    have e1 := fun w => may_g (w := w) o1
    have e2 := fun w => may_g (w := w) o2
    have e3 := fun w => may_b (w := w) b3
    unfold f_X_speak
    simp (disch := omega) only [k0, k1, k2, k3, k4, k5, k6, k7, k8, k9, k10, k12, k20, k30, k31, k40, k99, k160, ite_self, nI_add, nI_leI, nI_ltI, nI_eq, nI_clamp, nI_sub', nI_mul, vpb_n, eq_self, implies_true, grd_t, grd_i, if_pos, if_neg, bI_k, bV_k, bx0, bx1, mh0, mh1, rd_s, rd_o, rd_j, rd_2k, rdL_1k, ↓reduceIte, Bool.false_eq_true, Bool.true_eq_false, Nat.add_eq, Nat.zero_add, Nat.add_zero, not_true_eq_false, not_false_eq_true, (e1 w).1, (e2 w).1, (e3 w).1, v_ref]
    refine r6 ?_
    unfold f_M_speak
    simp (disch := omega) only [k0, k1, k2, k3, k4, k5, k6, k7, k8, k9, k10, k12, k20, k30, k31, k40, k99, k160, ite_self, nI_add, nI_leI, nI_ltI, nI_eq, nI_clamp, nI_sub', nI_mul, vpb_n, eq_self, implies_true, grd_t, grd_i, if_pos, if_neg, bI_k, bV_k, bx0, bx1, mh0, mh1, rd_s, rd_o, rd_j, rd_2k, rdL_1k, ↓reduceIte, Bool.false_eq_true, Bool.true_eq_false, Nat.add_eq, Nat.zero_add, Nat.add_zero, not_true_eq_false, not_false_eq_true, (e1 (u_X_refuse w (-nI 6))).2, (e2 (u_X_refuse w (-nI 6))).2, (e3 (u_X_refuse w (-nI 6))).2, v_no]
  have l1 := spL_le x1
  have l2 := spL_le x2
  have l3 := spL_le x3
  have hmx := mx_le l1 l2 l3
  have emx := mx_nI l1 l2 l3
  have hmx1 := mx_ge (spL x1) (spL x2) (spL x3)
  generalize hmm : mx3 (spL x1) (spL x2) (spL x3) = mm at *
  -- the reference: what it comes to, from any world whose cells but the scratch are w's
  have mrf : ∀ wa : MW, f_M_speak wa x1 x2 x3 x4 = f_M_speak_31 FU wa x1 x2 x3 x4 (nI 0) := by
    intro wa
    unfold f_M_speak
    simp (disch := omega) only [k0, k1, k2, k3, k4, k5, k6, k7, k8, k9, k10, k12, k20, k30, k31, k40, k99, k160, ite_self, nI_add, nI_leI, nI_ltI, nI_eq, nI_clamp, nI_sub', nI_mul, vpb_n, eq_self, implies_true, grd_t, grd_i, if_pos, if_neg, bI_k, bV_k, bx0, bx1, mh0, mh1, rd_s, rd_o, rd_j, rd_2k, rdL_1k, ↓reduceIte, Bool.false_eq_true, Bool.true_eq_false, Nat.add_eq, Nat.zero_add, Nat.add_zero, not_true_eq_false, not_false_eq_true, (may_g (w := wa) o1).2, (may_g (w := wa) o2).2, (may_g (w := wa) o3).2]
  have mrun : ∀ (wa : MW) (Q : Option Value → MW → Prop), (∀ wb : MW, (∀ a j, a ≠ 79 → wb.1 a j = wa.1 a j) → wb.2 = wa.2 → (∀ t f, t < 4 → f < 3 → wb.1 79 (3 * t + f) = spW (if f = 0 then x1 else if f = 1 then x2 else x3) t) →
      Ev (if v_M_within wb x4 (-nI 1) (nI (3 * mm) - nI 1) = nI 0 then some (some (.int (-nI 5)), u_M_no wb (-nI 5)) else if x4 = -nI 1 then some (some (.int (nI (3 * mm))), wb) else grd (vpb x4 12 = true) (some (some (.int (wb.1 79 x4.toNatClampNeg)), wb))) Q) → Ev (f_M_speak_31 FU wa x1 x2 x3 x4 (nI 0)) Q := by
    intro wa Q hQ
    refine lp (σ := MW) (F := fun m w' p => f_M_speak_31 m w' x1 x2 x3 x4 (nI p)) (fun w' p => (∀ a j, a ≠ 79 → w'.1 a j = wa.1 a j) ∧ w'.2 = wa.2 ∧ ∀ q, q < p → w'.1 79 q = nI 3) 12 0 wa ⟨fun _ _ _ => rfl, rfl, fun q hq => by omega⟩ (by omega) (by omega) ?_ ?_
    · intro m w' hi
      obtain ⟨i1, i2, i3⟩ := hi
      obtain ⟨a1, a2, a3⟩ := M_speaks (w := w') o1 (f := 0) (by omega)
      obtain ⟨b1, b2, b3⟩ := M_speaks (w := u_M_speaks w' x1 (nI 0)) o2 (f := 1) (by omega)
      obtain ⟨c1, c2, c3⟩ := M_speaks (w := u_M_speaks (u_M_speaks w' x1 (nI 0)) x2 (nI 1)) o3 (f := 2) (by omega)
      have hw : ∀ x t, spL x ≤ t → spW x t = nI 3 := fun x t ht => by
        unfold spW
        rw [if_pos ht]
      have fin := hQ (u_M_speaks (u_M_speaks (u_M_speaks w' x1 (nI 0)) x2 (nI 1)) x3 (nI 2)) (fun a j q => by rw [c2 a j (by omega), b2 a j (by omega), a2 a j (by omega), i1 a j q]) (by rw [c3, b3, a3, i2]) (fun t f ht hf => by
        rcases (show f = 0 ∨ f = 1 ∨ f = 2 by omega) with rfl | rfl | rfl
        · rw [if_pos rfl, c2 79 _ (by omega), b2 79 _ (by omega), a1 t ht]
          split
          · rfl
          · rw [i3 _ (by omega), hw x1 t (by omega)]
        · rw [if_neg (by omega), if_pos rfl, c2 79 _ (by omega), b1 t ht]
          split
          · rfl
          · rw [a2 79 _ (by omega), i3 _ (by omega), hw x2 t (by omega)]
        · rw [if_neg (by omega), if_neg (by omega), c1 t ht]
          split
          · rfl
          · rw [b2 79 _ (by omega), a2 79 _ (by omega), i3 _ (by omega), hw x3 t (by omega)])
      show Ev (f_M_speak_31 (m + 1) w' x1 x2 x3 x4 (nI 12)) _
      rw [f_M_speak_31]
      simp only [spk_L o1, spk_L o2, spk_L o3, emx]
      simp (disch := omega) only [k0, k1, k2, k3, k4, k5, k6, k7, k8, k9, k10, k12, k20, k30, k31, k40, k99, k160, ite_self, nI_add, nI_leI, nI_ltI, nI_eq, nI_clamp, nI_sub', nI_mul, vpb_n, eq_self, implies_true, grd_t, grd_i, if_pos, if_neg, bI_k, bV_k, bx0, bx1, mh0, mh1, rd_s, rd_o, rd_j, rd_2k, rdL_1k, ↓reduceIte, Bool.false_eq_true, Bool.true_eq_false, Nat.add_eq, Nat.zero_add, Nat.add_zero, not_true_eq_false, not_false_eq_true, v_no]
      exact fin
    · intro m w' p _ hp hinv kk
      obtain ⟨i1, i2, i3⟩ := hinv
      show Ev (f_M_speak_31 (m + 1) w' x1 x2 x3 x4 (nI p)) _
      rw [f_M_speak_31]
      have ep : ¬ nI 12 ≤ nI p := nI_ge (by omega) (by omega)
      have ep' : ¬ (12 : Int32) ≤ nI p := ep
      rw [if_neg ep']
      simp (disch := omega) only [k0, k1, k2, k3, k4, k5, k6, k7, k8, k9, k10, k12, k20, k30, k31, k40, k99, k160, ite_self, nI_add, nI_leI, nI_ltI, nI_eq, nI_clamp, nI_sub', nI_mul, vpb_n, eq_self, implies_true, grd_t, grd_i, if_pos, if_neg, bI_k, bV_k, bx0, bx1, mh0, mh1, rd_s, rd_o, rd_j, rd_2k, rdL_1k, ↓reduceIte, Bool.false_eq_true, Bool.true_eq_false, Nat.add_eq, Nat.zero_add, Nat.add_zero, not_true_eq_false, not_false_eq_true]
      refine kk _ ⟨fun a j q => by rw [rd_o q]; exact i1 a j q, by rw [rd_2]; exact i2, fun q hq => ?_⟩
      by_cases e : q = p
      · subst e
        rw [rd_s]
      · rw [rd_j e]
        exact i3 q (by omega)
  have qof : ∀ wa wb : MW, Inv sc N wa → (∀ a j, a ≠ 79 → wb.1 a j = wa.1 a j) → wb.2 = wa.2 → Inv sc N wb := fun wa wb hi e1 e2 => hi.fq ⟨fun a j q => e1 a j (by unfold Sc at q; omega), fun a q => by funext j; exact e1 a j (by omega), e2⟩
  have eX : f_X_speak w x1 x2 x3 x4 = if x4 = -nI 1 then some (some (.int (nI (3 * mm))), w) else if x4 < nI 0 then some (some (.int (-nI 5)), u_X_refuse w (-nI 5)) else if x4 < nI (3 * mm) then (if x4 - x4 / nI 3 * nI 3 = nI 0 then some (some (.int (v_X_ownWord w x1 (x4 / nI 3))), w) else if x4 - x4 / nI 3 * nI 3 = nI 1 then some (some (.int (v_X_ownWord w x2 (x4 / nI 3))), w) else some (some (.int (v_X_ownWord w x3 (x4 / nI 3))), w)) else some (some (.int (-nI 5)), u_X_refuse w (-nI 5)) := by
    unfold f_X_speak
    simp only [own_L o1, own_L o2, own_L o3, emx]
    simp (disch := omega) only [k0, k1, k2, k3, k4, k5, k6, k7, k8, k9, k10, k12, k20, k30, k31, k40, k99, k160, ite_self, nI_add, nI_leI, nI_ltI, nI_eq, nI_clamp, nI_sub', nI_mul, vpb_n, eq_self, implies_true, grd_t, grd_i, if_pos, if_neg, bI_k, bV_k, bx0, bx1, mh0, mh1, rd_s, rd_o, rd_j, rd_2k, rdL_1k, ↓reduceIte, Bool.false_eq_true, Bool.true_eq_false, Nat.add_eq, Nat.zero_add, Nat.add_zero, not_true_eq_false, not_false_eq_true, (may_g (w := w) o1).1, (may_g (w := w) o2).1, (may_g (w := w) o3).1, v_ref]
  rw [eX]
  by_cases c1 : x4 = -nI 1
  · rw [if_pos c1]
    refine Ev.i ?_
    rw [mrf]
    refine mrun w _ (fun wb e1 e2 e3 => ?_)
    have ew : v_M_within wb x4 (-nI 1) (nI (3 * mm) - nI 1) = nI 1 := by
      unfold v_M_within
      subst c1
      have q1 : ¬ (-nI 1 : Int32) < -nI 1 := by decide
      have q2 : ¬ nI (3 * mm) - nI 1 < -nI 1 := by
        rw [Int32.lt_iff_toInt_lt, pk_sub_toInt (by omega) (by omega), show (-nI 1).toInt = -1 by decide]
        omega
      rw [if_neg q1, if_neg q2]
      rfl
    rw [ew, if_neg (fun q => n10.mp q), if_pos c1]
    exact Ev.i ⟨rfl, qof w wb h e1 e2⟩
  rw [if_neg c1]
  have r5 : (x4 < nI 0 ∨ nI (3 * mm) ≤ x4) → EI (some (some (.int (-nI 5)), u_X_refuse w (-nI 5))) (fun v w1 => EI (f_M_speak w1 x1 x2 x3 x4) (fun v' w2 => v' = v ∧ Inv sc N w2)) := by
    intro q
    refine Ev.i ?_
    rw [mrf]
    refine mrun _ _ (fun wb e1 e2 e3 => ?_)
    have ew : v_M_within wb x4 (-nI 1) (nI (3 * mm) - nI 1) = nI 0 := by
      unfold v_M_within
      rcases q with q | q
      · refine if_pos ?_
        have e1 : (-nI 1).toInt = -1 := by decide
        have h5 : x4.toInt ≠ -1 := fun q => c1 (Int32.toInt_inj.mp (by rw [q, e1]))
        rw [Int32.lt_iff_toInt_lt, nI_toInt (by omega)] at q
        rw [Int32.lt_iff_toInt_lt, e1]
        omega
      · split
        · rfl
        · exact if_pos (bad_lt1 (by omega) q)
    rw [ew, if_pos rfl]
    refine Ev.i ⟨rfl, ?_⟩
    have hi := inv_ref h (c := 5) (by omega) (by omega)
    rw [mref (by omega) (by omega)] at hi ⊢
    have key : ∀ a j, a ≠ 79 → (setI wb 73 5 (wb.1 73 5 + nI 1)).1 a j = (setI (u_X_refuse w (-nI 5)) 73 5 ((u_X_refuse w (-nI 5)).1 73 5 + nI 1)).1 a j := by
      intro a j q
      rw [rd_ite, rd_ite, e1 73 5 (by omega)]
      split
      · rfl
      · exact e1 a j q
    exact qof _ _ hi key (by rw [rd_2, rd_2]; exact e2)
  by_cases c2 : x4 < nI 0
  · rw [if_pos c2]
    exact r5 (.inl c2)
  rw [if_neg c2]
  obtain ⟨i, hi, rfl⟩ := nI_of c2
  by_cases c3 : i < 3 * mm
  · rw [if_pos (nI_lt c3 (by omega))]
    have ed : nI i / nI 3 = nI (i / 3) := pk_div (by omega) (by omega) (by omega)
    have em : nI i - nI (i / 3) * nI 3 = nI (i % 3) := by
      rw [← ed]
      exact pk_rem (by omega) (by omega) (by omega)
    rw [ed, em]
    have hX : (if nI (i % 3) = nI 0 then some (some (.int (v_X_ownWord w x1 (nI (i / 3)))), w) else if nI (i % 3) = nI 1 then some (some (.int (v_X_ownWord w x2 (nI (i / 3)))), w) else some (some (.int (v_X_ownWord w x3 (nI (i / 3)))), w) : Option RT) = some (some (.int (spW (if i % 3 = 0 then x1 else if i % 3 = 1 then x2 else x3) (i / 3))), w) := by
      rw [X_ownWord o1 (by omega), X_ownWord o2 (by omega), X_ownWord o3 (by omega)]
      rcases (show i % 3 = 0 ∨ i % 3 = 1 ∨ i % 3 = 2 by omega) with q | q | q
      · rw [q, if_pos rfl, if_pos rfl]
      · rw [q, if_neg (by decide), if_pos rfl, if_neg (by omega), if_pos rfl]
      · rw [q, if_neg (by decide), if_neg (by decide), if_neg (by omega), if_neg (by omega)]
    rw [hX]
    refine Ev.i ?_
    rw [mrf]
    refine mrun w _ (fun wb e1 e2 e3 => ?_)
    have ew : v_M_within wb (nI i) (-nI 1) (nI (3 * mm) - nI 1) = nI 1 := by
      unfold v_M_within
      have q1 : ¬ nI i < -nI 1 := by
        rw [Int32.lt_iff_toInt_lt, nI_toInt (by omega), show (-nI 1).toInt = -1 by decide]
        omega
      rw [if_neg q1, pk_sub (by omega), if_neg (nI_nlt (by omega) (by omega))]
      rfl
    rw [ew, if_neg (fun q => n10.mp q), if_neg (nI_ne_m1 (by omega))]
    refine Ev.grd (vpb_n (by omega) (by omega)) ?_
    refine Ev.i ⟨?_, qof w wb h e1 e2⟩
    rw [nI_clamp (by omega), show i = 3 * (i / 3) + i % 3 by omega, e3 (i / 3) (i % 3) (by omega) (by omega)]
    rw [show (3 * (i / 3) + i % 3) % 3 = i % 3 by omega, show (3 * (i / 3) + i % 3) / 3 = i / 3 by omega]
  · rw [if_neg (nI_nlt (by omega) (by omega))]
    exact r5 (.inr (nI_le (by omega) (by omega)))
