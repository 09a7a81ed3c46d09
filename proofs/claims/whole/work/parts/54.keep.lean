/-! the reference keeps its cells, and takes them again -/
def KP (a : Nat) (w0 w : MW) : Prop := (∀ m, m < 8 → w.1 a m = w0.1 66 m ∧ w.1 a (8 + m) = w0.1 67 m ∧ w.1 a (16 + m) = w0.1 68 m ∧ w.1 a (24 + m) = w0.1 69 m ∧ w.1 a (32 + m) = w0.1 70 m ∧ w.1 a (40 + m) = w0.1 71 m) ∧
  (∀ p, p < 30 → w.1 a (48 + p) = w0.1 72 p) ∧ w.1 a 78 = w0.1 62 3 ∧ w.1 a 79 = w0.1 62 10 ∧ w.1 a 80 = w0.1 62 12
theorem k78 : (78 : Int32) = nI 78 := by decide
theorem k79 : (79 : Int32) = nI 79 := by decide
theorem k80 : (80 : Int32) = nI 80 := by decide
theorem k16 : (16 : Int32) = nI 16 := by decide
theorem k24 : (24 : Int32) = nI 24 := by decide
theorem k32 : (32 : Int32) = nI 32 := by decide
theorem k48 : (48 : Int32) = nI 48 := by decide
theorem M_keep {w : MW} {a1 : Nat} (ha : 75 ≤ a1) (ha2 : a1 ≤ 76) : EV (f_M_keep w a1) (fun w' => (∀ a j, a ≠ a1 → w'.1 a j = w.1 a j) ∧ w'.2 = w.2 ∧ KP a1 w w') := by
  unfold f_M_keep
  refine lp (σ := MW) (F := fun m w' i => f_M_keep_2 a1 m w' (nI i)) (fun w' i => (∀ a j, a ≠ a1 → w'.1 a j = w.1 a j) ∧ w'.2 = w.2 ∧ ∀ m, m < i → w'.1 a1 m = w.1 66 m ∧ w'.1 a1 (8 + m) = w.1 67 m ∧ w'.1 a1 (16 + m) = w.1 68 m ∧ w'.1 a1 (24 + m) = w.1 69 m ∧ w'.1 a1 (32 + m) = w.1 70 m ∧ w'.1 a1 (40 + m) = w.1 71 m) 8 0 w ⟨fun _ _ _ => rfl, rfl, fun m hm => by omega⟩ (by omega) (by omega) ?_ ?_
  · intro m w1 hi
    obtain ⟨i1, i2, i3⟩ := hi
    show Ev (f_M_keep_2 a1 (m + 1) w1 (nI 8)) _
    rw [f_M_keep_2]
    simp (disch := omega) only [k0, k1, k2, k3, k4, k5, k6, k7, k8, k9, k10, k12, k20, k30, k31, k40, k99, k160, ite_self, nI_add, nI_leI, nI_ltI, nI_eq, nI_clamp, nI_sub', nI_mul, vpb_n, eq_self, implies_true, grd_t, grd_i, if_pos, if_neg, bI_k, bV_k, bx0, bx1, mh0, mh1, rd_s, rd_o, rd_j, rd_2k, rdL_1k, ↓reduceIte, Bool.false_eq_true, Bool.true_eq_false, Nat.add_eq, Nat.zero_add, Nat.add_zero, not_true_eq_false, not_false_eq_true]
    refine lp (σ := MW) (F := fun m w' i => f_M_keep_85 a1 m w' (nI i)) (fun w' i => (∀ a j, a ≠ a1 → w'.1 a j = w.1 a j) ∧ w'.2 = w.2 ∧ (∀ m, m < 8 → w'.1 a1 m = w.1 66 m ∧ w'.1 a1 (8 + m) = w.1 67 m ∧ w'.1 a1 (16 + m) = w.1 68 m ∧ w'.1 a1 (24 + m) = w.1 69 m ∧ w'.1 a1 (32 + m) = w.1 70 m ∧ w'.1 a1 (40 + m) = w.1 71 m) ∧ ∀ p, p < i → w'.1 a1 (48 + p) = w.1 72 p) 30 0 w1 ⟨i1, i2, i3, fun m hm => by omega⟩ (by omega) (by omega) ?_ ?_
    · intro m w2 hj
      obtain ⟨j1, j2, j3, j4⟩ := hj
      show Ev (f_M_keep_85 a1 (m + 1) w2 (nI 30)) _
      rw [f_M_keep_85]
      simp (disch := omega) only [k0, k1, k2, k3, k4, k5, k6, k7, k8, k9, k10, k12, k20, k30, k31, k40, k99, k160, ite_self, nI_add, nI_leI, nI_ltI, nI_eq, nI_clamp, nI_sub', nI_mul, vpb_n, eq_self, implies_true, grd_t, grd_i, if_pos, if_neg, bI_k, bV_k, bx0, bx1, mh0, mh1, rd_s, rd_o, rd_j, rd_2k, rdL_1k, ↓reduceIte, Bool.false_eq_true, Bool.true_eq_false, Nat.add_eq, Nat.zero_add, Nat.add_zero, not_true_eq_false, not_false_eq_true, k78, k79, k80]
      refine Ev.v ⟨fun a j h => by simp (disch := omega) only [k0, k1, k2, k3, k4, k5, k6, k7, k8, k9, k10, k12, k20, k30, k31, k40, k99, k160, ite_self, nI_add, nI_leI, nI_ltI, nI_eq, nI_clamp, nI_sub', nI_mul, vpb_n, eq_self, implies_true, grd_t, grd_i, if_pos, if_neg, bI_k, bV_k, bx0, bx1, mh0, mh1, rd_s, rd_o, rd_j, rd_2k, rdL_1k, ↓reduceIte, Bool.false_eq_true, Bool.true_eq_false, Nat.add_eq, Nat.zero_add, Nat.add_zero, not_true_eq_false, not_false_eq_true]; exact j1 a j h, by simp (disch := omega) only [k0, k1, k2, k3, k4, k5, k6, k7, k8, k9, k10, k12, k20, k30, k31, k40, k99, k160, ite_self, nI_add, nI_leI, nI_ltI, nI_eq, nI_clamp, nI_sub', nI_mul, vpb_n, eq_self, implies_true, grd_t, grd_i, if_pos, if_neg, bI_k, bV_k, bx0, bx1, mh0, mh1, rd_s, rd_o, rd_j, rd_2k, rdL_1k, ↓reduceIte, Bool.false_eq_true, Bool.true_eq_false, Nat.add_eq, Nat.zero_add, Nat.add_zero, not_true_eq_false, not_false_eq_true]; exact j2, ⟨fun m hm => ?_, fun p hp => ?_, ?_, ?_, ?_⟩⟩
      · simp (disch := omega) only [k0, k1, k2, k3, k4, k5, k6, k7, k8, k9, k10, k12, k20, k30, k31, k40, k99, k160, ite_self, nI_add, nI_leI, nI_ltI, nI_eq, nI_clamp, nI_sub', nI_mul, vpb_n, eq_self, implies_true, grd_t, grd_i, if_pos, if_neg, bI_k, bV_k, bx0, bx1, mh0, mh1, rd_s, rd_o, rd_j, rd_2k, rdL_1k, ↓reduceIte, Bool.false_eq_true, Bool.true_eq_false, Nat.add_eq, Nat.zero_add, Nat.add_zero, not_true_eq_false, not_false_eq_true]
        exact j3 m hm
      · simp (disch := omega) only [k0, k1, k2, k3, k4, k5, k6, k7, k8, k9, k10, k12, k20, k30, k31, k40, k99, k160, ite_self, nI_add, nI_leI, nI_ltI, nI_eq, nI_clamp, nI_sub', nI_mul, vpb_n, eq_self, implies_true, grd_t, grd_i, if_pos, if_neg, bI_k, bV_k, bx0, bx1, mh0, mh1, rd_s, rd_o, rd_j, rd_2k, rdL_1k, ↓reduceIte, Bool.false_eq_true, Bool.true_eq_false, Nat.add_eq, Nat.zero_add, Nat.add_zero, not_true_eq_false, not_false_eq_true]
        exact j4 p hp
      · simp (disch := omega) only [k0, k1, k2, k3, k4, k5, k6, k7, k8, k9, k10, k12, k20, k30, k31, k40, k99, k160, ite_self, nI_add, nI_leI, nI_ltI, nI_eq, nI_clamp, nI_sub', nI_mul, vpb_n, eq_self, implies_true, grd_t, grd_i, if_pos, if_neg, bI_k, bV_k, bx0, bx1, mh0, mh1, rd_s, rd_o, rd_j, rd_2k, rdL_1k, ↓reduceIte, Bool.false_eq_true, Bool.true_eq_false, Nat.add_eq, Nat.zero_add, Nat.add_zero, not_true_eq_false, not_false_eq_true]
        exact j1 62 3 (by omega)
      · simp (disch := omega) only [k0, k1, k2, k3, k4, k5, k6, k7, k8, k9, k10, k12, k20, k30, k31, k40, k99, k160, ite_self, nI_add, nI_leI, nI_ltI, nI_eq, nI_clamp, nI_sub', nI_mul, vpb_n, eq_self, implies_true, grd_t, grd_i, if_pos, if_neg, bI_k, bV_k, bx0, bx1, mh0, mh1, rd_s, rd_o, rd_j, rd_2k, rdL_1k, ↓reduceIte, Bool.false_eq_true, Bool.true_eq_false, Nat.add_eq, Nat.zero_add, Nat.add_zero, not_true_eq_false, not_false_eq_true]
        exact j1 62 10 (by omega)
      · simp (disch := omega) only [k0, k1, k2, k3, k4, k5, k6, k7, k8, k9, k10, k12, k20, k30, k31, k40, k99, k160, ite_self, nI_add, nI_leI, nI_ltI, nI_eq, nI_clamp, nI_sub', nI_mul, vpb_n, eq_self, implies_true, grd_t, grd_i, if_pos, if_neg, bI_k, bV_k, bx0, bx1, mh0, mh1, rd_s, rd_o, rd_j, rd_2k, rdL_1k, ↓reduceIte, Bool.false_eq_true, Bool.true_eq_false, Nat.add_eq, Nat.zero_add, Nat.add_zero, not_true_eq_false, not_false_eq_true]
        exact j1 62 12 (by omega)
    · intro m w2 i _ hi hinv kk
      obtain ⟨j1, j2, j3, j4⟩ := hinv
      show Ev (f_M_keep_85 a1 (m + 1) w2 (nI i)) _
      rw [f_M_keep_85]
      simp (disch := omega) only [k0, k1, k2, k3, k4, k5, k6, k7, k8, k9, k10, k12, k20, k30, k31, k40, k99, k160, ite_self, nI_add, nI_leI, nI_ltI, nI_eq, nI_clamp, nI_sub', nI_mul, vpb_n, eq_self, implies_true, grd_t, grd_i, if_pos, if_neg, bI_k, bV_k, bx0, bx1, mh0, mh1, rd_s, rd_o, rd_j, rd_2k, rdL_1k, ↓reduceIte, Bool.false_eq_true, Bool.true_eq_false, Nat.add_eq, Nat.zero_add, Nat.add_zero, not_true_eq_false, not_false_eq_true, k48]
      refine kk _ ⟨fun a j h => by simp (disch := omega) only [k0, k1, k2, k3, k4, k5, k6, k7, k8, k9, k10, k12, k20, k30, k31, k40, k99, k160, ite_self, nI_add, nI_leI, nI_ltI, nI_eq, nI_clamp, nI_sub', nI_mul, vpb_n, eq_self, implies_true, grd_t, grd_i, if_pos, if_neg, bI_k, bV_k, bx0, bx1, mh0, mh1, rd_s, rd_o, rd_j, rd_2k, rdL_1k, ↓reduceIte, Bool.false_eq_true, Bool.true_eq_false, Nat.add_eq, Nat.zero_add, Nat.add_zero, not_true_eq_false, not_false_eq_true]; exact j1 a j h, by simp (disch := omega) only [k0, k1, k2, k3, k4, k5, k6, k7, k8, k9, k10, k12, k20, k30, k31, k40, k99, k160, ite_self, nI_add, nI_leI, nI_ltI, nI_eq, nI_clamp, nI_sub', nI_mul, vpb_n, eq_self, implies_true, grd_t, grd_i, if_pos, if_neg, bI_k, bV_k, bx0, bx1, mh0, mh1, rd_s, rd_o, rd_j, rd_2k, rdL_1k, ↓reduceIte, Bool.false_eq_true, Bool.true_eq_false, Nat.add_eq, Nat.zero_add, Nat.add_zero, not_true_eq_false, not_false_eq_true]; exact j2, fun m hm => by simp (disch := omega) only [k0, k1, k2, k3, k4, k5, k6, k7, k8, k9, k10, k12, k20, k30, k31, k40, k99, k160, ite_self, nI_add, nI_leI, nI_ltI, nI_eq, nI_clamp, nI_sub', nI_mul, vpb_n, eq_self, implies_true, grd_t, grd_i, if_pos, if_neg, bI_k, bV_k, bx0, bx1, mh0, mh1, rd_s, rd_o, rd_j, rd_2k, rdL_1k, ↓reduceIte, Bool.false_eq_true, Bool.true_eq_false, Nat.add_eq, Nat.zero_add, Nat.add_zero, not_true_eq_false, not_false_eq_true]; exact j3 m hm, fun p hp => ?_⟩
      by_cases e : p = i
      · subst e
        simp (disch := omega) only [k0, k1, k2, k3, k4, k5, k6, k7, k8, k9, k10, k12, k20, k30, k31, k40, k99, k160, ite_self, nI_add, nI_leI, nI_ltI, nI_eq, nI_clamp, nI_sub', nI_mul, vpb_n, eq_self, implies_true, grd_t, grd_i, if_pos, if_neg, bI_k, bV_k, bx0, bx1, mh0, mh1, rd_s, rd_o, rd_j, rd_2k, rdL_1k, ↓reduceIte, Bool.false_eq_true, Bool.true_eq_false, Nat.add_eq, Nat.zero_add, Nat.add_zero, not_true_eq_false, not_false_eq_true]
        exact j1 72 p (by omega)
      · simp (disch := omega) only [k0, k1, k2, k3, k4, k5, k6, k7, k8, k9, k10, k12, k20, k30, k31, k40, k99, k160, ite_self, nI_add, nI_leI, nI_ltI, nI_eq, nI_clamp, nI_sub', nI_mul, vpb_n, eq_self, implies_true, grd_t, grd_i, if_pos, if_neg, bI_k, bV_k, bx0, bx1, mh0, mh1, rd_s, rd_o, rd_j, rd_2k, rdL_1k, ↓reduceIte, Bool.false_eq_true, Bool.true_eq_false, Nat.add_eq, Nat.zero_add, Nat.add_zero, not_true_eq_false, not_false_eq_true]
        exact j4 p (by omega)
  · intro m w1 i _ hi hinv kk
    obtain ⟨i1, i2, i3⟩ := hinv
    show Ev (f_M_keep_2 a1 (m + 1) w1 (nI i)) _
    rw [f_M_keep_2]
    simp (disch := omega) only [k0, k1, k2, k3, k4, k5, k6, k7, k8, k9, k10, k12, k20, k30, k31, k40, k99, k160, ite_self, nI_add, nI_leI, nI_ltI, nI_eq, nI_clamp, nI_sub', nI_mul, vpb_n, eq_self, implies_true, grd_t, grd_i, if_pos, if_neg, bI_k, bV_k, bx0, bx1, mh0, mh1, rd_s, rd_o, rd_j, rd_2k, rdL_1k, ↓reduceIte, Bool.false_eq_true, Bool.true_eq_false, Nat.add_eq, Nat.zero_add, Nat.add_zero, not_true_eq_false, not_false_eq_true, k16, k24, k32]
    refine kk _ ⟨fun a j h => by simp (disch := omega) only [k0, k1, k2, k3, k4, k5, k6, k7, k8, k9, k10, k12, k20, k30, k31, k40, k99, k160, ite_self, nI_add, nI_leI, nI_ltI, nI_eq, nI_clamp, nI_sub', nI_mul, vpb_n, eq_self, implies_true, grd_t, grd_i, if_pos, if_neg, bI_k, bV_k, bx0, bx1, mh0, mh1, rd_s, rd_o, rd_j, rd_2k, rdL_1k, ↓reduceIte, Bool.false_eq_true, Bool.true_eq_false, Nat.add_eq, Nat.zero_add, Nat.add_zero, not_true_eq_false, not_false_eq_true]; exact i1 a j h, by simp (disch := omega) only [k0, k1, k2, k3, k4, k5, k6, k7, k8, k9, k10, k12, k20, k30, k31, k40, k99, k160, ite_self, nI_add, nI_leI, nI_ltI, nI_eq, nI_clamp, nI_sub', nI_mul, vpb_n, eq_self, implies_true, grd_t, grd_i, if_pos, if_neg, bI_k, bV_k, bx0, bx1, mh0, mh1, rd_s, rd_o, rd_j, rd_2k, rdL_1k, ↓reduceIte, Bool.false_eq_true, Bool.true_eq_false, Nat.add_eq, Nat.zero_add, Nat.add_zero, not_true_eq_false, not_false_eq_true]; exact i2, fun m hm => ?_⟩
    by_cases e : m = i
    · subst e
      simp (disch := omega) only [k0, k1, k2, k3, k4, k5, k6, k7, k8, k9, k10, k12, k20, k30, k31, k40, k99, k160, ite_self, nI_add, nI_leI, nI_ltI, nI_eq, nI_clamp, nI_sub', nI_mul, vpb_n, eq_self, implies_true, grd_t, grd_i, if_pos, if_neg, bI_k, bV_k, bx0, bx1, mh0, mh1, rd_s, rd_o, rd_j, rd_2k, rdL_1k, ↓reduceIte, Bool.false_eq_true, Bool.true_eq_false, Nat.add_eq, Nat.zero_add, Nat.add_zero, not_true_eq_false, not_false_eq_true]
      exact ⟨i1 66 m (by omega), i1 67 m (by omega), i1 68 m (by omega), i1 69 m (by omega), i1 70 m (by omega), i1 71 m (by omega)⟩
    · simp (disch := omega) only [k0, k1, k2, k3, k4, k5, k6, k7, k8, k9, k10, k12, k20, k30, k31, k40, k99, k160, ite_self, nI_add, nI_leI, nI_ltI, nI_eq, nI_clamp, nI_sub', nI_mul, vpb_n, eq_self, implies_true, grd_t, grd_i, if_pos, if_neg, bI_k, bV_k, bx0, bx1, mh0, mh1, rd_s, rd_o, rd_j, rd_2k, rdL_1k, ↓reduceIte, Bool.false_eq_true, Bool.true_eq_false, Nat.add_eq, Nat.zero_add, Nat.add_zero, not_true_eq_false, not_false_eq_true]
      exact i3 m (by omega)
def AGN (a1 : Nat) (w w' : MW) : Prop := (∀ a j, ¬ (66 ≤ a ∧ a ≤ 71 ∧ j < 8) → ¬ (a = 72 ∧ j < 30) → ¬ (a = 62 ∧ (j = 3 ∨ j = 10 ∨ j = 12)) → w'.1 a j = w.1 a j) ∧ w'.2 = w.2 ∧
  (∀ m, m < 8 → w'.1 66 m = w.1 a1 m ∧ w'.1 67 m = w.1 a1 (8 + m) ∧ w'.1 68 m = w.1 a1 (16 + m) ∧ w'.1 69 m = w.1 a1 (24 + m) ∧ w'.1 70 m = w.1 a1 (32 + m) ∧ w'.1 71 m = w.1 a1 (40 + m)) ∧
  (∀ p, p < 30 → w'.1 72 p = w.1 a1 (48 + p)) ∧ w'.1 62 3 = w.1 a1 78 ∧ w'.1 62 10 = w.1 a1 79 ∧ w'.1 62 12 = w.1 a1 80
theorem M_again {w : MW} {a1 : Nat} (ha : 75 ≤ a1) (ha2 : a1 ≤ 76) : EV (f_M_again w a1) (AGN a1 w) := by
  unfold f_M_again
  refine lp (σ := MW) (F := fun m w' i => f_M_again_2 a1 m w' (nI i)) (fun w' i => (∀ a j, ¬ (66 ≤ a ∧ a ≤ 71 ∧ j < 8) → w'.1 a j = w.1 a j) ∧ w'.2 = w.2 ∧ ∀ m, m < i → w'.1 66 m = w.1 a1 m ∧ w'.1 67 m = w.1 a1 (8 + m) ∧ w'.1 68 m = w.1 a1 (16 + m) ∧ w'.1 69 m = w.1 a1 (24 + m) ∧ w'.1 70 m = w.1 a1 (32 + m) ∧ w'.1 71 m = w.1 a1 (40 + m)) 8 0 w ⟨fun _ _ _ => rfl, rfl, fun m hm => by omega⟩ (by omega) (by omega) ?_ ?_
  · intro m w1 hi
    obtain ⟨i1, i2, i3⟩ := hi
    show Ev (f_M_again_2 a1 (m + 1) w1 (nI 8)) _
    rw [f_M_again_2]
    simp (disch := omega) only [k0, k1, k2, k3, k4, k5, k6, k7, k8, k9, k10, k12, k20, k30, k31, k40, k99, k160, ite_self, nI_add, nI_leI, nI_ltI, nI_eq, nI_clamp, nI_sub', nI_mul, vpb_n, eq_self, implies_true, grd_t, grd_i, if_pos, if_neg, bI_k, bV_k, bx0, bx1, mh0, mh1, rd_s, rd_o, rd_j, rd_2k, rdL_1k, ↓reduceIte, Bool.false_eq_true, Bool.true_eq_false, Nat.add_eq, Nat.zero_add, Nat.add_zero, not_true_eq_false, not_false_eq_true]
    refine lp (σ := MW) (F := fun m w' i => f_M_again_85 a1 m w' (nI i)) (fun w' i => (∀ a j, ¬ (66 ≤ a ∧ a ≤ 71 ∧ j < 8) → ¬ (a = 72 ∧ j < 30) → w'.1 a j = w.1 a j) ∧ w'.2 = w.2 ∧ (∀ m, m < 8 → w'.1 66 m = w.1 a1 m ∧ w'.1 67 m = w.1 a1 (8 + m) ∧ w'.1 68 m = w.1 a1 (16 + m) ∧ w'.1 69 m = w.1 a1 (24 + m) ∧ w'.1 70 m = w.1 a1 (32 + m) ∧ w'.1 71 m = w.1 a1 (40 + m)) ∧ ∀ p, p < i → w'.1 72 p = w.1 a1 (48 + p)) 30 0 w1 ⟨fun a j h _ => i1 a j h, i2, i3, fun m hm => by omega⟩ (by omega) (by omega) ?_ ?_
    · intro m w2 hj
      obtain ⟨j1, j2, j3, j4⟩ := hj
      show Ev (f_M_again_85 a1 (m + 1) w2 (nI 30)) _
      rw [f_M_again_85]
      simp (disch := omega) only [k0, k1, k2, k3, k4, k5, k6, k7, k8, k9, k10, k12, k20, k30, k31, k40, k99, k160, ite_self, nI_add, nI_leI, nI_ltI, nI_eq, nI_clamp, nI_sub', nI_mul, vpb_n, eq_self, implies_true, grd_t, grd_i, if_pos, if_neg, bI_k, bV_k, bx0, bx1, mh0, mh1, rd_s, rd_o, rd_j, rd_2k, rdL_1k, ↓reduceIte, Bool.false_eq_true, Bool.true_eq_false, Nat.add_eq, Nat.zero_add, Nat.add_zero, not_true_eq_false, not_false_eq_true, k78, k79, k80]
      refine Ev.v ⟨fun a j h1 h2 h3 => ?_, by simp (disch := omega) only [k0, k1, k2, k3, k4, k5, k6, k7, k8, k9, k10, k12, k20, k30, k31, k40, k99, k160, ite_self, nI_add, nI_leI, nI_ltI, nI_eq, nI_clamp, nI_sub', nI_mul, vpb_n, eq_self, implies_true, grd_t, grd_i, if_pos, if_neg, bI_k, bV_k, bx0, bx1, mh0, mh1, rd_s, rd_o, rd_j, rd_2k, rdL_1k, ↓reduceIte, Bool.false_eq_true, Bool.true_eq_false, Nat.add_eq, Nat.zero_add, Nat.add_zero, not_true_eq_false, not_false_eq_true]; exact j2, fun m hm => ?_, fun p hp => ?_, ?_, ?_, ?_⟩
      · rw [rd_ite, rd_ite, rd_ite, if_neg (by omega), if_neg (by omega), if_neg (by omega)]
        exact j1 a j h1 h2
      · simp (disch := omega) only [k0, k1, k2, k3, k4, k5, k6, k7, k8, k9, k10, k12, k20, k30, k31, k40, k99, k160, ite_self, nI_add, nI_leI, nI_ltI, nI_eq, nI_clamp, nI_sub', nI_mul, vpb_n, eq_self, implies_true, grd_t, grd_i, if_pos, if_neg, bI_k, bV_k, bx0, bx1, mh0, mh1, rd_s, rd_o, rd_j, rd_2k, rdL_1k, ↓reduceIte, Bool.false_eq_true, Bool.true_eq_false, Nat.add_eq, Nat.zero_add, Nat.add_zero, not_true_eq_false, not_false_eq_true]
        exact j3 m hm
      · simp (disch := omega) only [k0, k1, k2, k3, k4, k5, k6, k7, k8, k9, k10, k12, k20, k30, k31, k40, k99, k160, ite_self, nI_add, nI_leI, nI_ltI, nI_eq, nI_clamp, nI_sub', nI_mul, vpb_n, eq_self, implies_true, grd_t, grd_i, if_pos, if_neg, bI_k, bV_k, bx0, bx1, mh0, mh1, rd_s, rd_o, rd_j, rd_2k, rdL_1k, ↓reduceIte, Bool.false_eq_true, Bool.true_eq_false, Nat.add_eq, Nat.zero_add, Nat.add_zero, not_true_eq_false, not_false_eq_true]
        exact j4 p hp
      · simp (disch := omega) only [k0, k1, k2, k3, k4, k5, k6, k7, k8, k9, k10, k12, k20, k30, k31, k40, k99, k160, ite_self, nI_add, nI_leI, nI_ltI, nI_eq, nI_clamp, nI_sub', nI_mul, vpb_n, eq_self, implies_true, grd_t, grd_i, if_pos, if_neg, bI_k, bV_k, bx0, bx1, mh0, mh1, rd_s, rd_o, rd_j, rd_2k, rdL_1k, ↓reduceIte, Bool.false_eq_true, Bool.true_eq_false, Nat.add_eq, Nat.zero_add, Nat.add_zero, not_true_eq_false, not_false_eq_true]
        exact j1 a1 78 (by omega) (by omega)
      · simp (disch := omega) only [k0, k1, k2, k3, k4, k5, k6, k7, k8, k9, k10, k12, k20, k30, k31, k40, k99, k160, ite_self, nI_add, nI_leI, nI_ltI, nI_eq, nI_clamp, nI_sub', nI_mul, vpb_n, eq_self, implies_true, grd_t, grd_i, if_pos, if_neg, bI_k, bV_k, bx0, bx1, mh0, mh1, rd_s, rd_o, rd_j, rd_2k, rdL_1k, ↓reduceIte, Bool.false_eq_true, Bool.true_eq_false, Nat.add_eq, Nat.zero_add, Nat.add_zero, not_true_eq_false, not_false_eq_true]
        exact j1 a1 79 (by omega) (by omega)
      · simp (disch := omega) only [k0, k1, k2, k3, k4, k5, k6, k7, k8, k9, k10, k12, k20, k30, k31, k40, k99, k160, ite_self, nI_add, nI_leI, nI_ltI, nI_eq, nI_clamp, nI_sub', nI_mul, vpb_n, eq_self, implies_true, grd_t, grd_i, if_pos, if_neg, bI_k, bV_k, bx0, bx1, mh0, mh1, rd_s, rd_o, rd_j, rd_2k, rdL_1k, ↓reduceIte, Bool.false_eq_true, Bool.true_eq_false, Nat.add_eq, Nat.zero_add, Nat.add_zero, not_true_eq_false, not_false_eq_true]
        exact j1 a1 80 (by omega) (by omega)
    · intro m w2 i _ hi hinv kk
      obtain ⟨j1, j2, j3, j4⟩ := hinv
      show Ev (f_M_again_85 a1 (m + 1) w2 (nI i)) _
      rw [f_M_again_85]
      simp (disch := omega) only [k0, k1, k2, k3, k4, k5, k6, k7, k8, k9, k10, k12, k20, k30, k31, k40, k99, k160, ite_self, nI_add, nI_leI, nI_ltI, nI_eq, nI_clamp, nI_sub', nI_mul, vpb_n, eq_self, implies_true, grd_t, grd_i, if_pos, if_neg, bI_k, bV_k, bx0, bx1, mh0, mh1, rd_s, rd_o, rd_j, rd_2k, rdL_1k, ↓reduceIte, Bool.false_eq_true, Bool.true_eq_false, Nat.add_eq, Nat.zero_add, Nat.add_zero, not_true_eq_false, not_false_eq_true, k48]
      refine kk _ ⟨fun a j h1 h2 => by rw [rd_ite, if_neg (by omega)]; exact j1 a j h1 h2, by simp (disch := omega) only [k0, k1, k2, k3, k4, k5, k6, k7, k8, k9, k10, k12, k20, k30, k31, k40, k99, k160, ite_self, nI_add, nI_leI, nI_ltI, nI_eq, nI_clamp, nI_sub', nI_mul, vpb_n, eq_self, implies_true, grd_t, grd_i, if_pos, if_neg, bI_k, bV_k, bx0, bx1, mh0, mh1, rd_s, rd_o, rd_j, rd_2k, rdL_1k, ↓reduceIte, Bool.false_eq_true, Bool.true_eq_false, Nat.add_eq, Nat.zero_add, Nat.add_zero, not_true_eq_false, not_false_eq_true]; exact j2, fun m hm => by simp (disch := omega) only [k0, k1, k2, k3, k4, k5, k6, k7, k8, k9, k10, k12, k20, k30, k31, k40, k99, k160, ite_self, nI_add, nI_leI, nI_ltI, nI_eq, nI_clamp, nI_sub', nI_mul, vpb_n, eq_self, implies_true, grd_t, grd_i, if_pos, if_neg, bI_k, bV_k, bx0, bx1, mh0, mh1, rd_s, rd_o, rd_j, rd_2k, rdL_1k, ↓reduceIte, Bool.false_eq_true, Bool.true_eq_false, Nat.add_eq, Nat.zero_add, Nat.add_zero, not_true_eq_false, not_false_eq_true]; exact j3 m hm, fun p hp => ?_⟩
      by_cases e : p = i
      · subst e
        simp (disch := omega) only [k0, k1, k2, k3, k4, k5, k6, k7, k8, k9, k10, k12, k20, k30, k31, k40, k99, k160, ite_self, nI_add, nI_leI, nI_ltI, nI_eq, nI_clamp, nI_sub', nI_mul, vpb_n, eq_self, implies_true, grd_t, grd_i, if_pos, if_neg, bI_k, bV_k, bx0, bx1, mh0, mh1, rd_s, rd_o, rd_j, rd_2k, rdL_1k, ↓reduceIte, Bool.false_eq_true, Bool.true_eq_false, Nat.add_eq, Nat.zero_add, Nat.add_zero, not_true_eq_false, not_false_eq_true]
        exact j1 a1 (48 + p) (by omega) (by omega)
      · simp (disch := omega) only [k0, k1, k2, k3, k4, k5, k6, k7, k8, k9, k10, k12, k20, k30, k31, k40, k99, k160, ite_self, nI_add, nI_leI, nI_ltI, nI_eq, nI_clamp, nI_sub', nI_mul, vpb_n, eq_self, implies_true, grd_t, grd_i, if_pos, if_neg, bI_k, bV_k, bx0, bx1, mh0, mh1, rd_s, rd_o, rd_j, rd_2k, rdL_1k, ↓reduceIte, Bool.false_eq_true, Bool.true_eq_false, Nat.add_eq, Nat.zero_add, Nat.add_zero, not_true_eq_false, not_false_eq_true]
        exact j4 p (by omega)
  · intro m w1 i _ hi hinv kk
    obtain ⟨i1, i2, i3⟩ := hinv
    show Ev (f_M_again_2 a1 (m + 1) w1 (nI i)) _
    rw [f_M_again_2]
    simp (disch := omega) only [k0, k1, k2, k3, k4, k5, k6, k7, k8, k9, k10, k12, k20, k30, k31, k40, k99, k160, ite_self, nI_add, nI_leI, nI_ltI, nI_eq, nI_clamp, nI_sub', nI_mul, vpb_n, eq_self, implies_true, grd_t, grd_i, if_pos, if_neg, bI_k, bV_k, bx0, bx1, mh0, mh1, rd_s, rd_o, rd_j, rd_2k, rdL_1k, ↓reduceIte, Bool.false_eq_true, Bool.true_eq_false, Nat.add_eq, Nat.zero_add, Nat.add_zero, not_true_eq_false, not_false_eq_true, k16, k24, k32]
    refine kk _ ⟨fun a j h => ?_, by simp (disch := omega) only [k0, k1, k2, k3, k4, k5, k6, k7, k8, k9, k10, k12, k20, k30, k31, k40, k99, k160, ite_self, nI_add, nI_leI, nI_ltI, nI_eq, nI_clamp, nI_sub', nI_mul, vpb_n, eq_self, implies_true, grd_t, grd_i, if_pos, if_neg, bI_k, bV_k, bx0, bx1, mh0, mh1, rd_s, rd_o, rd_j, rd_2k, rdL_1k, ↓reduceIte, Bool.false_eq_true, Bool.true_eq_false, Nat.add_eq, Nat.zero_add, Nat.add_zero, not_true_eq_false, not_false_eq_true]; exact i2, fun m hm => ?_⟩
    · rw [rd_ite, rd_ite, rd_ite, rd_ite, rd_ite, rd_ite, if_neg (by omega), if_neg (by omega), if_neg (by omega), if_neg (by omega), if_neg (by omega), if_neg (by omega)]
      exact i1 a j h
    · by_cases e : m = i
      · subst e
        simp (disch := omega) only [k0, k1, k2, k3, k4, k5, k6, k7, k8, k9, k10, k12, k20, k30, k31, k40, k99, k160, ite_self, nI_add, nI_leI, nI_ltI, nI_eq, nI_clamp, nI_sub', nI_mul, vpb_n, eq_self, implies_true, grd_t, grd_i, if_pos, if_neg, bI_k, bV_k, bx0, bx1, mh0, mh1, rd_s, rd_o, rd_j, rd_2k, rdL_1k, ↓reduceIte, Bool.false_eq_true, Bool.true_eq_false, Nat.add_eq, Nat.zero_add, Nat.add_zero, not_true_eq_false, not_false_eq_true]
        exact ⟨i1 a1 m (by omega), i1 a1 (8 + m) (by omega), i1 a1 (16 + m) (by omega), i1 a1 (24 + m) (by omega), i1 a1 (32 + m) (by omega), i1 a1 (40 + m) (by omega)⟩
      · simp (disch := omega) only [k0, k1, k2, k3, k4, k5, k6, k7, k8, k9, k10, k12, k20, k30, k31, k40, k99, k160, ite_self, nI_add, nI_leI, nI_ltI, nI_eq, nI_clamp, nI_sub', nI_mul, vpb_n, eq_self, implies_true, grd_t, grd_i, if_pos, if_neg, bI_k, bV_k, bx0, bx1, mh0, mh1, rd_s, rd_o, rd_j, rd_2k, rdL_1k, ↓reduceIte, Bool.false_eq_true, Bool.true_eq_false, Nat.add_eq, Nat.zero_add, Nat.add_zero, not_true_eq_false, not_false_eq_true]
        exact i3 m (by omega)
/-- between keeping and taking again: the court's cells may change -/
def FK (w w' : MW) : Prop := (∀ a j, ¬ (66 ≤ a ∧ a ≤ 71 ∧ j < 8) → ¬ (a = 72 ∧ j < 30) → ¬ (a = 62 ∧ (j = 3 ∨ j = 10 ∨ j = 12)) → (a < 76 ∨ 80 < a) → ¬ (a = 62 ∧ (j = 23 ∨ j = 24)) → w'.1 a j = w.1 a j) ∧ w'.2 = w.2 ∧ KP 76 w w'
theorem FK.fm {w w1 w2 : MW} (h : FK w w1) (f : FM w1 w2) : FK w w2 := by
  obtain ⟨h1, h2, h3, h4, h5, h6, h7⟩ := h
  refine ⟨fun a j a1 a2 a3 a4 a5 => (f.1 a j (by omega) a5).trans (h1 a j a1 a2 a3 a4 a5), f.2.trans h2, ?_⟩
  have e : ∀ j, w2.1 76 j = w1.1 76 j := fun j => f.1 76 j (by omega) (by omega)
  refine ⟨fun m hm => ?_, fun p hp => ?_, ?_, ?_, ?_⟩
  · simp only [e]
    exact h3 m hm
  · simp only [e]
    exact h4 p hp
  · simp only [e]
    exact h5
  · simp only [e]
    exact h6
  · simp only [e]
    exact h7
theorem FK.ag {w w1 w2 : MW} (h : FK w w1) (g : AGN 76 w1 w2) : FQ w w2 ∧ FK w w2 ∧ ∀ a j, (a < 76 ∨ 80 < a) → ¬ (a = 62 ∧ (j = 23 ∨ j = 24)) → w2.1 a j = w.1 a j := by
  obtain ⟨h1, h2, h3, h4, h5, h6, h7⟩ := h
  obtain ⟨g1, g2, g3, g4, g5, g6, g7⟩ := g
  have key : ∀ a j, (a < 76 ∨ 80 < a) → ¬ (a = 62 ∧ (j = 23 ∨ j = 24)) → w2.1 a j = w.1 a j := by
    intro a j q1 q2
    by_cases c1 : 66 ≤ a ∧ a ≤ 71 ∧ j < 8
    · obtain ⟨r1, r2, r3, r4, r5, r6⟩ := g3 j c1.2.2
      obtain ⟨s1, s2, s3, s4, s5, s6⟩ := h3 j c1.2.2
      rcases (show a = 66 ∨ a = 67 ∨ a = 68 ∨ a = 69 ∨ a = 70 ∨ a = 71 by omega) with rfl | rfl | rfl | rfl | rfl | rfl
      · exact r1.trans s1
      · exact r2.trans s2
      · exact r3.trans s3
      · exact r4.trans s4
      · exact r5.trans s5
      · exact r6.trans s6
    by_cases c2 : a = 72 ∧ j < 30
    · obtain ⟨rfl, hj⟩ := c2
      exact (g4 j hj).trans (h4 j hj)
    by_cases c3 : a = 62 ∧ (j = 3 ∨ j = 10 ∨ j = 12)
    · obtain ⟨rfl, rfl | rfl | rfl⟩ := c3
      · exact g5.trans h5
      · exact g6.trans h6
      · exact g7.trans h7
    exact (g1 a j c1 c2 c3).trans (h1 a j c1 c2 c3 q1 q2)
  have e : ∀ j, w2.1 76 j = w1.1 76 j := fun j => g1 76 j (by omega) (by omega) (by omega)
  refine ⟨⟨fun a j q => key a j (by unfold Sc at q; omega) (by unfold Sc at q; omega), fun a q => ?_, g2.trans h2⟩, ⟨fun a j a1 a2 a3 a4 a5 => key a j a4 a5, g2.trans h2, fun m hm => ?_, fun p hp => ?_, ?_, ?_, ?_⟩, key⟩
  · funext j
    exact key a j (by omega) (by omega)
  · simp only [e]
    exact h3 m hm
  · simp only [e]
    exact h4 p hp
  · simp only [e]
    exact h5
  · simp only [e]
    exact h6
  · simp only [e]
    exact h7
theorem FK.start {w w1 : MW} (h1 : ∀ a j, a ≠ 76 → w1.1 a j = w.1 a j) (h2 : w1.2 = w.2) (h3 : KP 76 w w1) : FK w w1 :=
  ⟨fun a j _ _ _ a4 _ => h1 a j (by omega), h2, h3⟩
