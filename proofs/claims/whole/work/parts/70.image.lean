/-! the image, and taking it up again -/
theorem become_eq {w : MW} {x y : Nat} (h : x ≠ y) : u_Mn_become w x y = setI (setI (setI (setI (setI (setI w x 0 (w.1 y 0)) x 1 (w.1 y 1)) x 2 (w.1 y 2)) x 3 (w.1 y 3)) x 4 (w.1 y 4)) x 5 (w.1 y 5) := by
  unfold u_Mn_become
  have h' : y ≠ x := fun e => h e.symm
  simp only [rd_o h']
def BC (a0 a1 : Nat) (w w' : MW) : Prop := w'.1 a0 1 = w.1 a1 1 ∧ w'.1 a0 3 = w.1 a1 3 ∧ w'.1 a0 4 = w.1 a1 4 ∧ (∀ i, i < 8 → ∀ j, j < 6 → w'.1 (a0 + 2 + i) j = w.1 (a1 + 2 + i) j) ∧ (∀ p, p < 30 → w'.1 (a0 + 10) p = w.1 (a1 + 10) p) ∧ CF a0 w w'
theorem rdA_s {w : MW} {a : Nat} {f : Nat → Int32} : (setA w a f).1 a = f := setA_s
theorem rdA_o {w : MW} {a : Nat} {f : Nat → Int32} {k : Nat} (h : k ≠ a) : (setA w a f).1 k = w.1 k := setA_o h
theorem X_become {w : MW} {a0 a1 : Nat} (h : a0 + 10 < a1 ∨ a1 + 10 < a0) : EV (f_Ct_become w a0 a1) (BC a0 a1 w) := by
  unfold f_Ct_become
  refine lp (σ := MW) (F := fun m w' i => f_Ct_become_2 a0 a1 m w' (nI i)) (fun w' i => (∀ m, m < i → ∀ j, j < 6 → w'.1 (a0 + 2 + m) j = w.1 (a1 + 2 + m) j) ∧ (∀ a j, ¬ (a0 + 2 ≤ a ∧ a ≤ a0 + 9) → w'.1 a j = w.1 a j) ∧ w'.2 = w.2) 8 0 w ⟨fun m hm => by omega, fun _ _ _ => rfl, rfl⟩ (by omega) (by omega) ?_ ?_
  · intro m w' hi
    obtain ⟨i1, i2, i3⟩ := hi
    show Ev (f_Ct_become_2 a0 a1 (m + 1) w' (nI 8)) _
    rw [f_Ct_become_2]
    simp (disch := omega) only [k0, k1, k2, k3, k4, k5, k6, k7, k8, k9, k10, k12, k20, k30, k31, k40, k99, k160, ite_self, nI_add, nI_leI, nI_ltI, nI_eq, nI_clamp, nI_sub', nI_mul, vpb_n, eq_self, implies_true, grd_t, grd_i, if_pos, if_neg, bI_k, bV_k, bx0, bx1, mh0, mh1, rd_s, rd_o, rd_j, rd_2k, rdL_1k, ↓reduceIte, Bool.false_eq_true, Bool.true_eq_false, Nat.add_eq, Nat.zero_add, Nat.add_zero, not_true_eq_false, not_false_eq_true]
    refine Ev.v ⟨?_, ?_, ?_, fun i hi j hj => ?_, fun p hp => ?_, fun a j q => ?_, ?_⟩
    · rw [rd_j (by omega), rd_j (by omega), rdA_o (by omega), rd_s]
      exact i2 a1 1 (by omega)
    · rw [rd_j (by omega), rd_s, rdA_o (by omega), rd_o (by omega)]
      exact i2 a1 3 (by omega)
    · rw [rd_s, rdA_o (by omega), rd_o (by omega)]
      exact i2 a1 4 (by omega)
    · rw [rd_o (by omega), rd_o (by omega), rdA_o (by omega), rd_o (by omega)]
      exact i1 i hi j hj
    · rw [rd_o (by omega), rd_o (by omega), rdA_s]
      unfold va_cpy
      rw [if_pos (by omega), Nat.sub_zero, Nat.zero_add]
      exact i2 (a1 + 10) p (by omega)
    · rw [rd_o (by omega), rd_o (by omega), rdA_o (by omega), rd_o (by omega)]
      exact i2 a j (by omega)
    · exact i3
  · intro m w' i _ hi hinv kk
    obtain ⟨i1, i2, i3⟩ := hinv
    show Ev (f_Ct_become_2 a0 a1 (m + 1) w' (nI i)) _
    rw [f_Ct_become_2]
    simp (disch := omega) only [k0, k1, k2, k3, k4, k5, k6, k7, k8, k9, k10, k12, k20, k30, k31, k40, k99, k160, ite_self, nI_add, nI_leI, nI_ltI, nI_eq, nI_clamp, nI_sub', nI_mul, vpb_n, eq_self, implies_true, grd_t, grd_i, if_pos, if_neg, bI_k, bV_k, bx0, bx1, mh0, mh1, rd_s, rd_o, rd_j, rd_2k, rdL_1k, ↓reduceIte, Bool.false_eq_true, Bool.true_eq_false, Nat.add_eq, Nat.zero_add, Nat.add_zero, not_true_eq_false, not_false_eq_true]
    rw [become_eq (by omega)]
    refine kk _ ⟨fun l hl j hj => ?_, fun a j q => ?_, by rw [rd_2, rd_2, rd_2, rd_2, rd_2, rd_2]; exact i3⟩
    · by_cases e : l = i
      · subst e
        rcases (show j = 0 ∨ j = 1 ∨ j = 2 ∨ j = 3 ∨ j = 4 ∨ j = 5 by omega) with rfl | rfl | rfl | rfl | rfl | rfl
        all_goals
          simp (disch := omega) only [k0, k1, k2, k3, k4, k5, k6, k7, k8, k9, k10, k12, k20, k30, k31, k40, k99, k160, ite_self, nI_add, nI_leI, nI_ltI, nI_eq, nI_clamp, nI_sub', nI_mul, vpb_n, eq_self, implies_true, grd_t, grd_i, if_pos, if_neg, bI_k, bV_k, bx0, bx1, mh0, mh1, rd_s, rd_o, rd_j, rd_2k, rdL_1k, ↓reduceIte, Bool.false_eq_true, Bool.true_eq_false, Nat.add_eq, Nat.zero_add, Nat.add_zero, not_true_eq_false, not_false_eq_true]
          exact i2 (a1 + 2 + l) _ (by omega)
      · rw [rd_o (by omega), rd_o (by omega), rd_o (by omega), rd_o (by omega), rd_o (by omega), rd_o (by omega)]
        exact i1 l (by omega) j hj
    · rw [rd_o (by omega), rd_o (by omega), rd_o (by omega), rd_o (by omega), rd_o (by omega), rd_o (by omega)]
      exact i2 a j q
theorem BC.rx {a0 a1 : Nat} {w w' : MW} {n L : Nat} {K A F : Nat → Nat} {M S : Nat → Int32} (b : BC a0 a1 w w') (rx : RX a1 w n L K A F M S) (hn : n ≤ 8) (hL : L ≤ 30) : RX a0 w' n L K A F M S := by
  obtain ⟨b1, b2, b3, b4, b5, b6⟩ := b
  obtain ⟨r1, r2, r3, r4⟩ := rx
  refine ⟨b1.trans r1, b2.trans r2, fun i hi => ?_, fun p hp => (b5 p (by omega)).trans (r4 p hp)⟩
  rw [b4 i (by omega) 0 (by omega), b4 i (by omega) 1 (by omega), b4 i (by omega) 2 (by omega), b4 i (by omega) 5 (by omega)]
  exact r3 i hi
theorem BC.xc {a0 a1 : Nat} {w w' : MW} {n : Nat} {B H : Nat → Int32} (b : BC a0 a1 w w') (xc : XC a1 w n B H) (hn : n ≤ 8) : XC a0 w' n B H := by
  intro i hi
  rw [b.2.2.2.1 i (by omega) 3 (by omega), b.2.2.2.1 i (by omega) 4 (by omega)]
  exact xc i hi
theorem sim_image : SIM (fun w => f_X_image w) (fun w => f_M_image w) := by
  intro sc N w h
  have h0 := h
  obtain ⟨⟨n, L, K, A, F, M, S, g1, g2⟩, g3, g4, g5, g6⟩ := h0
  have hn := g1.2.2.1.1
  have hL := g1.2.2.1.2.1
  have ok := g1.2.2.1
  have os := g6.oks g1.2.1 hL
  show EI (f_X_image w) _
  unfold f_X_image
  refine Ev.bV (X_become (a0 := 12) (a1 := 1) (by omega)) (fun w1 h1 => ?_)
  have rx12 := h1.rx g1.1 hn hL
  have xc12 := h1.xc g1.2.2.2.2.1 hn
  obtain ⟨b1, b2, b3, b4, b5, b6, b7⟩ := h1
  refine Ev.i ?_
  show EI (f_M_image (setI w1 0 8 (1 : Int32))) _
  unfold f_M_image
  refine Ev.bV (M_keep (a1 := 75) (by omega) (by omega)) (fun w2 h2 => ?_)
  obtain ⟨k1', k2', k3', k4', k5', k6', k7'⟩ := h2
  have b6' : ∀ a j, ¬ (12 ≤ a ∧ a ≤ 22) → w1.1 a j = w.1 a j := fun a j q => b6 a j (by omega)
  have rd : ∀ a j, a ≠ 75 → w2.1 a j = (setI (setI w1 0 8 1) 62 17 1).1 a j := k1'
  have rd2 : ∀ a j, a ≠ 75 → ¬ (a = 0 ∧ j = 8) → ¬ (a = 62 ∧ j = 17) → w2.1 a j = w1.1 a j := fun a j q1 q2 q3 => by rw [rd a j q1, rd_ite, if_neg q3, rd_ite, if_neg q2]
  have rd3 : ∀ a j, a ≠ 75 → ¬ (a = 0 ∧ j = 8) → ¬ (a = 62 ∧ j = 17) → ¬ (12 ≤ a ∧ a ≤ 22) → w2.1 a j = w.1 a j := fun a j q1 q2 q3 q4 => (rd2 a j q1 q2 q3).trans (b6' a j q4)
  have w0rd : ∀ a j, ¬ (a = 0 ∧ j = 8) → ¬ (a = 62 ∧ j = 17) → ¬ (12 ≤ a ∧ a ≤ 22) → (setI (setI w1 0 8 1) 62 17 1).1 a j = w.1 a j := fun a j q2 q3 q4 => by rw [rd_ite, if_neg q3, rd_ite, if_neg q2]; exact b6' a j q4
  have c2 : w2.2 = w.2 := k2'.trans b7
  refine Ev.i ⟨?_, ⟨⟨n, L, K, A, F, M, S, g1.ag (fun a j p => ?_), fun s hs => (g2 s hs).ag hs (fun a j p => ?_) (by rw [c2])⟩, g3.ag (fun a j p => ?_), g4.ag (fun a j p => ?_), .inr ⟨?_, ?_, n, L, K, A, F, M, S, ?_, ?_, ok, g1.2.2.2.1, fun i hi => ?_, ?_, os⟩, g6.ag (fun a q => ?_) (by rw [c2]) (rd3 62 10 (by omega) (by omega) (by omega) (by omega)) (fun p => rd3 72 p (by omega) (by omega) (by omega) (by omega))⟩⟩
  · rw [rd2 62 3 (by omega) (by omega) (by omega), rd_o (by omega), b6' 62 3 (by omega), b6' 1 1 (by omega), g1.1.1, g1.2.1.1]
  · unfold pCT at p
    exact rd3 a j (by omega) (by omega) (by omega) (by omega)
  · unfold pSH at p
    exact rd3 a j (by omega) (by omega) (by omega) (by omega)
  · unfold pFR at p
    exact rd3 a j (by omega) (by omega) (by omega) (by omega)
  · unfold pTR at p
    exact rd3 a j (by omega) (by omega) (by omega) (by omega)
  · rw [rd 0 8 (by omega), rd_o (by omega), rd_s]
    rfl
  · rw [rd 62 17 (by omega), rd_s]
    rfl
  · obtain ⟨r1, r2, r3, r4⟩ := rx12
    refine ⟨by rw [rd2 _ _ (by omega) (by omega) (by omega)]; exact r1, by rw [rd2 _ _ (by omega) (by omega) (by omega)]; exact r2, fun i hi => ?_, fun p hp => by rw [rd2 _ _ (by omega) (by omega) (by omega)]; exact r4 p hp⟩
    rw [rd2 (12 + 2 + i) 0 (by omega) (by omega) (by omega), rd2 (12 + 2 + i) 1 (by omega) (by omega) (by omega), rd2 (12 + 2 + i) 2 (by omega) (by omega) (by omega), rd2 (12 + 2 + i) 5 (by omega) (by omega) (by omega)]
    exact r3 i hi
  · obtain ⟨r1, r2, r3, r4⟩ := g1.2.1
    refine ⟨?_, ?_, fun i hi => ?_, fun p hp => ?_⟩
    · rw [k5', w0rd 62 3 (by omega) (by omega) (by omega)]
      exact r1
    · rw [k6', w0rd 62 10 (by omega) (by omega) (by omega)]
      exact r2
    · obtain ⟨t1, t2, t3, t4, t5, t6⟩ := k3' i (by omega)
      rw [t1, t2, t3, t6, w0rd 66 i (by omega) (by omega) (by omega), w0rd 67 i (by omega) (by omega) (by omega), w0rd 68 i (by omega) (by omega) (by omega), w0rd 71 i (by omega) (by omega) (by omega)]
      exact r3 i hi
    · rw [k4' p (by omega), w0rd 72 p (by omega) (by omega) (by omega)]
      exact r4 p hp
  · obtain ⟨t1, t2, t3, t4, t5, t6⟩ := k3' i (by omega)
    rw [t4, t5, rd2 (12 + 2 + i) 3 (by omega) (by omega) (by omega), rd2 (12 + 2 + i) 4 (by omega) (by omega) (by omega), w0rd 69 i (by omega) (by omega) (by omega), w0rd 70 i (by omega) (by omega) (by omega)]
    exact xc12 i hi
  · rw [k7', rd2 12 4 (by omega) (by omega) (by omega), b3, w0rd 62 12 (by omega) (by omega) (by omega)]
    exact g1.2.2.2.2.2
  · funext j
    exact rd3 a j (by omega) (by omega) (by omega) (by omega)
def rsV (n : Nat) (h : Int32) : Int32 := if h < nI 100 ∧ ¬ h < nI n then -nI 1 else h
theorem X_restL {w : MW} {n : Nat} (hn : n ≤ 8) (e1 : w.1 1 1 = nI n) (hm : ∀ s, s < 8 → w.1 (35 + 2 * s) 0 = -nI 1 ∨ (∃ m, m < 8 ∧ w.1 (35 + 2 * s) 0 = nI m ∧ w.1 (35 + 2 * s) 1 = nI 0) ∨ ∃ t, t < 4 ∧ w.1 (35 + 2 * s) 0 = nI (100 + t)) :
    EI (f_X_restore_27 FU w (nI 0)) (fun v w' => v = nI n ∧ (∀ s, s < 8 → w'.1 (35 + 2 * s) 0 = rsV n (w.1 (35 + 2 * s) 0)) ∧ (∀ s, s < 8 → w'.1 (35 + 2 * s) 1 = w.1 (35 + 2 * s) 1) ∧ (∀ a j, (a < 35 ∨ 49 < a) → w'.1 a j = w.1 a j) ∧ w'.2 = w.2) := by
  refine lp (σ := MW) (F := fun m w' i => f_X_restore_27 m w' (nI i)) (fun w' i => (∀ s, s < i → w'.1 (35 + 2 * s) 0 = rsV n (w.1 (35 + 2 * s) 0)) ∧ (∀ s, i ≤ s → s < 8 → w'.1 (35 + 2 * s) 0 = w.1 (35 + 2 * s) 0) ∧ (∀ s, s < 8 → w'.1 (35 + 2 * s) 1 = w.1 (35 + 2 * s) 1) ∧ (∀ a j, (a < 35 ∨ 49 < a) → w'.1 a j = w.1 a j) ∧ w'.2 = w.2) 8 0 w ⟨fun s hs => by omega, fun _ _ _ => rfl, fun _ _ => rfl, fun _ _ _ => rfl, rfl⟩ (by omega) (by omega) ?_ ?_
  · intro m w' hi
    obtain ⟨i1, i2, i3, i4, i5⟩ := hi
    show Ev (f_X_restore_27 (m + 1) w' (nI 8)) _
    rw [f_X_restore_27]
    have e11 : w'.1 1 1 = nI n := (i4 1 1 (by omega)).trans e1
    simp (disch := omega) only [k0, k1, k2, k3, k4, k5, k6, k7, k8, k9, k10, k12, k20, k30, k31, k40, k99, k160, ite_self, nI_add, nI_leI, nI_ltI, nI_eq, nI_clamp, nI_sub', nI_mul, vpb_n, eq_self, implies_true, grd_t, grd_i, if_pos, if_neg, bI_k, bV_k, bx0, bx1, mh0, mh1, rd_s, rd_o, rd_j, rd_2k, rdL_1k, ↓reduceIte, Bool.false_eq_true, Bool.true_eq_false, Nat.add_eq, Nat.zero_add, Nat.add_zero, not_true_eq_false, not_false_eq_true, e11]
    exact Ev.i ⟨rfl, i1, i3, i4, i5⟩
  · intro m w' i _ hi hinv kk
    obtain ⟨i1, i2, i3, i4, i5⟩ := hinv
    have eh := i2 i (by omega) hi
    have e11 : w'.1 1 1 = nI n := (i4 1 1 (by omega)).trans e1
    have keep : rsV n (w.1 (35 + 2 * i) 0) = w.1 (35 + 2 * i) 0 → Ev (f_X_restore_27 m w' (nI (i + 1))) _ := fun q => kk w' ⟨fun s hs => by
      by_cases e : s = i
      · subst e
        rw [q]
        exact eh
      · exact i1 s (by omega), fun s h1 h2 => i2 s (by omega) h2, i3, i4, i5⟩
    obtain ⟨n1, n2, n3, n4, n5⟩ := neg_lt0 (c := 1) (by omega) (by omega)
    show Ev (f_X_restore_27 (m + 1) w' (nI i)) _
    rw [f_X_restore_27]
    unfold v_Sh_isMan v_Ct_isMan
    rcases hm i hi with q | ⟨l, hl, q, q1⟩ | ⟨t, ht, q⟩
    · rw [q] at eh
      simp (disch := omega) only [k0, k1, k2, k3, k4, k5, k6, k7, k8, k9, k10, k12, k20, k30, k31, k40, k99, k160, ite_self, nI_add, nI_leI, nI_ltI, nI_eq, nI_clamp, nI_sub', nI_mul, vpb_n, eq_self, implies_true, grd_t, grd_i, if_pos, if_neg, bI_k, bV_k, bx0, bx1, mh0, mh1, rd_s, rd_o, rd_j, rd_2k, rdL_1k, ↓reduceIte, Bool.false_eq_true, Bool.true_eq_false, Nat.add_eq, Nat.zero_add, Nat.add_zero, not_true_eq_false, not_false_eq_true, eh, n1]
      refine keep ?_
      rw [q]
      unfold rsV
      split <;> rfl
    · rw [q] at eh
      have l0 : ¬ nI l < nI 0 := nI_pos (by omega)
      by_cases c : n ≤ l
      · simp (disch := omega) only [k0, k1, k2, k3, k4, k5, k6, k7, k8, k9, k10, k12, k20, k30, k31, k40, k99, k160, ite_self, nI_add, nI_leI, nI_ltI, nI_eq, nI_clamp, nI_sub', nI_mul, vpb_n, eq_self, implies_true, grd_t, grd_i, if_pos, if_neg, bI_k, bV_k, bx0, bx1, mh0, mh1, rd_s, rd_o, rd_j, rd_2k, rdL_1k, ↓reduceIte, Bool.false_eq_true, Bool.true_eq_false, Nat.add_eq, Nat.zero_add, Nat.add_zero, not_true_eq_false, not_false_eq_true, eh, e11, k100, l0]
        unfold u_Sh_takeNothing
        refine kk _ ⟨fun s hs => ?_, fun s h1 h2 => by rw [rd_o (by omega), rd_o (by omega)]; exact i2 s (by omega) h2, fun s hs => ?_, fun a j c => by rw [rd_o (by omega), rd_o (by omega)]; exact i4 a j c, by rw [rd_2, rd_2]; exact i5⟩
        · by_cases e : s = i
          · subst e
            rw [rd_j (by omega), rd_s, q]
            unfold rsV
            rw [if_pos ⟨nI_lt (by omega) (by omega), nI_nlt c (by omega)⟩]
            rfl
          · rw [rd_o (by omega), rd_o (by omega)]
            exact i1 s (by omega)
        · by_cases e : s = i
          · subst e
            rw [rd_s, q1]
            rfl
          · rw [rd_o (by omega), rd_o (by omega)]
            exact i3 s hs
      · simp (disch := omega) only [k0, k1, k2, k3, k4, k5, k6, k7, k8, k9, k10, k12, k20, k30, k31, k40, k99, k160, ite_self, nI_add, nI_leI, nI_ltI, nI_eq, nI_clamp, nI_sub', nI_mul, vpb_n, eq_self, implies_true, grd_t, grd_i, if_pos, if_neg, bI_k, bV_k, bx0, bx1, mh0, mh1, rd_s, rd_o, rd_j, rd_2k, rdL_1k, ↓reduceIte, Bool.false_eq_true, Bool.true_eq_false, Nat.add_eq, Nat.zero_add, Nat.add_zero, not_true_eq_false, not_false_eq_true, eh, e11, k100, l0]
        refine keep ?_
        rw [q]
        unfold rsV
        rw [if_neg (fun z => z.2 (nI_lt (by omega) (by omega)))]
    · rw [q] at eh
      simp (disch := omega) only [k0, k1, k2, k3, k4, k5, k6, k7, k8, k9, k10, k12, k20, k30, k31, k40, k99, k160, ite_self, nI_add, nI_leI, nI_ltI, nI_eq, nI_clamp, nI_sub', nI_mul, vpb_n, eq_self, implies_true, grd_t, grd_i, if_pos, if_neg, bI_k, bV_k, bx0, bx1, mh0, mh1, rd_s, rd_o, rd_j, rd_2k, rdL_1k, ↓reduceIte, Bool.false_eq_true, Bool.true_eq_false, Nat.add_eq, Nat.zero_add, Nat.add_zero, not_true_eq_false, not_false_eq_true, eh, k100]
      refine keep ?_
      rw [q]
      unfold rsV
      rw [if_neg (fun z => nI_nlt (a := 100 + t) (b := 100) (by omega) (by omega) z.1)]
theorem M_restL {w : MW} {n : Nat} (hn : n ≤ 8) (e1 : w.1 62 3 = nI n) : EI (f_M_restore_24 FU w (nI 0)) (fun v w' => v = nI n ∧ (∀ s, s < 8 → w'.1 63 s = rsV n (w.1 63 s)) ∧ (∀ a j, ¬ (a = 63 ∧ j < 8) → w'.1 a j = w.1 a j) ∧ w'.2 = w.2) := by
  refine lp (σ := MW) (F := fun m w' i => f_M_restore_24 m w' (nI i)) (fun w' i => (∀ s, s < i → w'.1 63 s = rsV n (w.1 63 s)) ∧ (∀ s, i ≤ s → s < 8 → w'.1 63 s = w.1 63 s) ∧ (∀ a j, ¬ (a = 63 ∧ j < 8) → w'.1 a j = w.1 a j) ∧ w'.2 = w.2) 8 0 w ⟨fun s hs => by omega, fun _ _ _ => rfl, fun _ _ _ => rfl, rfl⟩ (by omega) (by omega) ?_ ?_
  · intro m w' hi
    obtain ⟨i1, i2, i4, i5⟩ := hi
    show Ev (f_M_restore_24 (m + 1) w' (nI 8)) _
    rw [f_M_restore_24]
    have e11 : w'.1 62 3 = nI n := (i4 62 3 (by omega)).trans e1
    simp (disch := omega) only [k0, k1, k2, k3, k4, k5, k6, k7, k8, k9, k10, k12, k20, k30, k31, k40, k99, k160, ite_self, nI_add, nI_leI, nI_ltI, nI_eq, nI_clamp, nI_sub', nI_mul, vpb_n, eq_self, implies_true, grd_t, grd_i, if_pos, if_neg, bI_k, bV_k, bx0, bx1, mh0, mh1, rd_s, rd_o, rd_j, rd_2k, rdL_1k, ↓reduceIte, Bool.false_eq_true, Bool.true_eq_false, Nat.add_eq, Nat.zero_add, Nat.add_zero, not_true_eq_false, not_false_eq_true, e11]
    exact Ev.i ⟨rfl, i1, i4, i5⟩
  · intro m w' i _ hi hinv kk
    obtain ⟨i1, i2, i4, i5⟩ := hinv
    have eh := i2 i (by omega) hi
    have e11 : w'.1 62 3 = nI n := (i4 62 3 (by omega)).trans e1
    have keep : rsV n (w.1 63 i) = w.1 63 i → Ev (f_M_restore_24 m w' (nI (i + 1))) _ := fun q => kk w' ⟨fun s hs => by
      by_cases e : s = i
      · subst e
        rw [q]
        exact eh
      · exact i1 s (by omega), fun s h1 h2 => i2 s (by omega) h2, i4, i5⟩
    show Ev (f_M_restore_24 (m + 1) w' (nI i)) _
    rw [f_M_restore_24]
    unfold v_M_isRow
    by_cases c1 : w.1 63 i < nI 100
    · by_cases c2 : w.1 63 i < nI n
      · simp (disch := omega) only [k0, k1, k2, k3, k4, k5, k6, k7, k8, k9, k10, k12, k20, k30, k31, k40, k99, k160, ite_self, nI_add, nI_leI, nI_ltI, nI_eq, nI_clamp, nI_sub', nI_mul, vpb_n, eq_self, implies_true, grd_t, grd_i, if_pos, if_neg, bI_k, bV_k, bx0, bx1, mh0, mh1, rd_s, rd_o, rd_j, rd_2k, rdL_1k, ↓reduceIte, Bool.false_eq_true, Bool.true_eq_false, Nat.add_eq, Nat.zero_add, Nat.add_zero, not_true_eq_false, not_false_eq_true, eh, e11, k100, c1, c2]
        refine keep ?_
        unfold rsV
        rw [if_neg (fun z => z.2 c2)]
      · simp (disch := omega) only [k0, k1, k2, k3, k4, k5, k6, k7, k8, k9, k10, k12, k20, k30, k31, k40, k99, k160, ite_self, nI_add, nI_leI, nI_ltI, nI_eq, nI_clamp, nI_sub', nI_mul, vpb_n, eq_self, implies_true, grd_t, grd_i, if_pos, if_neg, bI_k, bV_k, bx0, bx1, mh0, mh1, rd_s, rd_o, rd_j, rd_2k, rdL_1k, ↓reduceIte, Bool.false_eq_true, Bool.true_eq_false, Nat.add_eq, Nat.zero_add, Nat.add_zero, not_true_eq_false, not_false_eq_true, eh, e11, k100, c1, c2]
        refine kk _ ⟨fun s hs => ?_, fun s h1 h2 => by rw [rd_j (by omega)]; exact i2 s (by omega) h2, fun a j c => by rw [rd_ite, if_neg (by omega)]; exact i4 a j c, by rw [rd_2]; exact i5⟩
        by_cases e : s = i
        · subst e
          rw [rd_s]
          unfold rsV
          rw [if_pos ⟨c1, c2⟩]
        · rw [rd_j e]
          exact i1 s (by omega)
    · simp (disch := omega) only [k0, k1, k2, k3, k4, k5, k6, k7, k8, k9, k10, k12, k20, k30, k31, k40, k99, k160, ite_self, nI_add, nI_leI, nI_ltI, nI_eq, nI_clamp, nI_sub', nI_mul, vpb_n, eq_self, implies_true, grd_t, grd_i, if_pos, if_neg, bI_k, bV_k, bx0, bx1, mh0, mh1, rd_s, rd_o, rd_j, rd_2k, rdL_1k, ↓reduceIte, Bool.false_eq_true, Bool.true_eq_false, Nat.add_eq, Nat.zero_add, Nat.add_zero, not_true_eq_false, not_false_eq_true, eh, k100, c1]
      refine keep ?_
      unfold rsV
      rw [if_neg (fun z => c1 z.1)]
theorem sim_restore : SIM (fun w => f_X_restore w) (fun w => f_M_restore w) := by
  intro sc N w h
  have h0 := h
  obtain ⟨⟨n, L, K, A, F, M, S, g1, g2⟩, g3, g4, g5, g6⟩ := h0
  have hn := g1.2.2.1.1
  show EI (f_X_restore w) _
  unfold f_X_restore
  rcases g5 with ⟨i1, i2⟩ | ⟨i1, i2, n', L', K', A', F', M', S', ic⟩
  · simp (disch := omega) only [k0, k1, k2, k3, k4, k5, k6, k7, k8, k9, k10, k12, k20, k30, k31, k40, k99, k160, ite_self, nI_add, nI_leI, nI_ltI, nI_eq, nI_clamp, nI_sub', nI_mul, vpb_n, eq_self, implies_true, grd_t, grd_i, if_pos, if_neg, bI_k, bV_k, bx0, bx1, mh0, mh1, rd_s, rd_o, rd_j, rd_2k, rdL_1k, ↓reduceIte, Bool.false_eq_true, Bool.true_eq_false, Nat.add_eq, Nat.zero_add, Nat.add_zero, not_true_eq_false, not_false_eq_true, i1]
    refine Ev.i ?_
    show EI (f_M_restore (u_X_refuse w (-nI 6))) _
    unfold f_M_restore
    have e : (u_X_refuse w (-nI 6)).1 62 17 = nI 0 := by rw [xr_o (by omega)]; exact i2
    simp (disch := omega) only [k0, k1, k2, k3, k4, k5, k6, k7, k8, k9, k10, k12, k20, k30, k31, k40, k99, k160, ite_self, nI_add, nI_leI, nI_ltI, nI_eq, nI_clamp, nI_sub', nI_mul, vpb_n, eq_self, implies_true, grd_t, grd_i, if_pos, if_neg, bI_k, bV_k, bx0, bx1, mh0, mh1, rd_s, rd_o, rd_j, rd_2k, rdL_1k, ↓reduceIte, Bool.false_eq_true, Bool.true_eq_false, Nat.add_eq, Nat.zero_add, Nat.add_zero, not_true_eq_false, not_false_eq_true, e]
    exact Ev.i ⟨rfl, inv_ref h (by omega) (by omega)⟩
  have ic0 := ic
  obtain ⟨ix, im, iok, iom, ib, isd, ios⟩ := ic
  have hn' := iok.1
  have hL' := iok.2.1
  simp (disch := omega) only [k0, k1, k2, k3, k4, k5, k6, k7, k8, k9, k10, k12, k20, k30, k31, k40, k99, k160, ite_self, nI_add, nI_leI, nI_ltI, nI_eq, nI_clamp, nI_sub', nI_mul, vpb_n, eq_self, implies_true, grd_t, grd_i, if_pos, if_neg, bI_k, bV_k, bx0, bx1, mh0, mh1, rd_s, rd_o, rd_j, rd_2k, rdL_1k, ↓reduceIte, Bool.false_eq_true, Bool.true_eq_false, Nat.add_eq, Nat.zero_add, Nat.add_zero, not_true_eq_false, not_false_eq_true, i1]
  refine Ev.bV (X_become (a0 := 1) (a1 := 12) (by omega)) (fun w1 h1 => ?_)
  have rx1 := h1.rx ix hn' hL'
  have xc1 := h1.xc (B := fun i => w.1 75 (24 + i)) (H := fun i => w.1 75 (32 + i)) ib hn'
  obtain ⟨b1, b2, b3, b4, b5, b6, b7⟩ := h1
  have b6' : ∀ a j, ¬ (1 ≤ a ∧ a ≤ 11) → w1.1 a j = w.1 a j := fun a j q => b6 a j (by omega)
  refine EI.mono (X_restL hn' rx1.1 (fun s hs => ?_)) (fun v w2 h2 => ?_)
  · rw [b6' _ _ (by omega), b6' _ _ (by omega)]
    rcases g2 s hs with ⟨a1, a2, a3⟩ | ⟨m, a0, a1, a2, a3⟩ | ⟨t, len, hr⟩
    · exact .inl a1
    · exact .inr (.inl ⟨m, by omega, a1, a3⟩)
    · exact .inr (.inr ⟨t, hr.1, hr.2.2.1⟩)
  obtain ⟨rfl, c1, c2, c3, c4⟩ := h2
  have x62 : ∀ a j, 61 ≤ a → w2.1 a j = w.1 a j := fun a j q => (c3 a j (by omega)).trans (b6' a j (by omega))
  have e17 : w2.1 62 17 = nI 1 := (x62 62 17 (by omega)).trans i2
  show EI (f_M_restore w2) _
  unfold f_M_restore
  simp (disch := omega) only [k0, k1, k2, k3, k4, k5, k6, k7, k8, k9, k10, k12, k20, k30, k31, k40, k99, k160, ite_self, nI_add, nI_leI, nI_ltI, nI_eq, nI_clamp, nI_sub', nI_mul, vpb_n, eq_self, implies_true, grd_t, grd_i, if_pos, if_neg, bI_k, bV_k, bx0, bx1, mh0, mh1, rd_s, rd_o, rd_j, rd_2k, rdL_1k, ↓reduceIte, Bool.false_eq_true, Bool.true_eq_false, Nat.add_eq, Nat.zero_add, Nat.add_zero, not_true_eq_false, not_false_eq_true, e17]
  refine Ev.bV (M_again (a1 := 75) (by omega) (by omega)) (fun w3 h3 => ?_)
  obtain ⟨d1, d2, d3, d4, d5, d6, d7⟩ := h3
  have e3 : w3.1 62 3 = nI n' := by
    rw [d5, x62 75 78 (by omega)]
    exact im.1
  refine EI.mono (M_restL hn' e3) (fun v w4 h4 => ?_)
  obtain ⟨rfl, f1, f2, f3⟩ := h4
  have c4' : w4.2 = w.2 := f3.trans (d2.trans (c4.trans b7))
  have up : ∀ a j, ¬ (66 ≤ a ∧ a ≤ 72) → ¬ (a = 62 ∧ (j = 3 ∨ j = 10 ∨ j = 12)) → ¬ (a = 63) → w4.1 a j = w2.1 a j := fun a j q1 q2 q3 => by rw [f2 a j (by omega), d1 a j (by omega) (by omega) q2]
  have up2 : ∀ a j, ¬ (66 ≤ a ∧ a ≤ 72) → ¬ (a = 62 ∧ (j = 3 ∨ j = 10 ∨ j = 12)) → ¬ (a = 63) → ¬ (1 ≤ a ∧ a ≤ 11) → (a < 35 ∨ 49 < a) → w4.1 a j = w.1 a j := fun a j q1 q2 q3 q4 q5 => by rw [up a j q1 q2 q3, c3 a j q5, b6' a j q4]
  have x75 : ∀ j, w2.1 75 j = w.1 75 j := fun j => x62 75 j (by omega)
  have e10 : w4.1 62 10 = nI L' := by
    rw [f2 62 10 (by omega), d6, x75]
    exact im.2.1
  have e72 : ∀ p, p < L' → w4.1 72 p = S' p := fun p hp => by
    rw [f2 72 p (by omega), d4 p (by omega), x75]
    exact im.2.2.2 p hp
  have ct : CT w4 n' L' K' A' F' M' S' := by
    refine ⟨?_, ⟨by rw [f2 62 3 (by omega)]; exact e3, e10, fun i hi => ?_, e72⟩, iok, iom, fun i hi => ?_, ?_⟩
    · obtain ⟨r1, r2, r3, r4⟩ := rx1
      have q : ∀ a j, 1 ≤ a → a ≤ 11 → w4.1 a j = w1.1 a j := fun a j q1 q2 => by rw [up a j (by omega) (by omega) (by omega), c3 a j (by omega)]
      refine ⟨(q 1 1 (by omega) (by omega)).trans r1, (q 1 3 (by omega) (by omega)).trans r2, fun i hi => ?_, fun p hp => (q (1 + 10) p (by omega) (by omega)).trans (r4 p hp)⟩
      rw [q (1 + 2 + i) 0 (by omega) (by omega), q (1 + 2 + i) 1 (by omega) (by omega), q (1 + 2 + i) 2 (by omega) (by omega), q (1 + 2 + i) 5 (by omega) (by omega)]
      exact r3 i hi
    · obtain ⟨t1, t2, t3, t4, t5, t6⟩ := d3 i (by omega)
      rw [f2 66 i (by omega), f2 67 i (by omega), f2 68 i (by omega), f2 71 i (by omega), t1, t2, t3, t6, x75, x75, x75, x75]
      exact im.2.2.1 i hi
    · obtain ⟨t1, t2, t3, t4, t5, t6⟩ := d3 i (by omega)
      rw [f2 69 i (by omega), f2 70 i (by omega), t4, t5, x75, x75, up (1 + 2 + i) 3 (by omega) (by omega) (by omega), up (1 + 2 + i) 4 (by omega) (by omega) (by omega), c3 (1 + 2 + i) 3 (by omega), c3 (1 + 2 + i) 4 (by omega)]
      exact xc1 i hi
    · rw [f2 62 12 (by omega), d7, x75, up 1 4 (by omega) (by omega) (by omega), c3 1 4 (by omega), b3]
      exact isd
  have sh : ∀ s, s < 8 → SH w4 n' s := by
    intro s hs
    have h0 : w4.1 (35 + 2 * s) 0 = rsV n' (w.1 (35 + 2 * s) 0) := by rw [up _ _ (by omega) (by omega) (by omega), c1 s hs, b6' _ _ (by omega)]
    have h1 : w4.1 (35 + 2 * s) 1 = w.1 (35 + 2 * s) 1 := by rw [up _ _ (by omega) (by omega) (by omega), c2 s hs, b6' _ _ (by omega)]
    have h63 : w4.1 63 s = rsV n' (w.1 63 s) := by rw [f1 s hs, d1 63 s (by omega) (by omega) (by omega), x62 63 s (by omega)]
    have h64 : w4.1 64 s = w.1 64 s := up2 64 s (by omega) (by omega) (by omega) (by omega) (by omega)
    rcases g2 s hs with ⟨a1, a2, a3⟩ | ⟨m, a0, a1, a2, a3⟩ | ⟨t, len, r1, r2, r3, r4, r5, r6, r7⟩
    · rw [a1] at h0
      rw [a2] at h63
      have e : rsV n' (-nI 1) = -nI 1 := by
        unfold rsV
        split <;> rfl
      exact .inl ⟨h0.trans e, h63.trans e, h1.trans a3⟩
    · rw [a1] at h0
      rw [a2] at h63
      by_cases c : m < n'
      · have e : rsV n' (nI m) = nI m := by
          unfold rsV
          rw [if_neg (fun z => z.2 (nI_lt c (by omega)))]
        exact .inr (.inl ⟨m, c, h0.trans e, h63.trans e, h1.trans a3⟩)
      · have e : rsV n' (nI m) = -nI 1 := by
          unfold rsV
          rw [if_pos ⟨nI_lt (by omega) (by omega), nI_nlt (by omega) (by omega)⟩]
        exact .inl ⟨h0.trans e, h63.trans e, h1.trans a3⟩
    · rw [r3] at h0
      rw [r4] at h63
      have e : rsV n' (nI (100 + t)) = nI (100 + t) := by
        unfold rsV
        rw [if_neg (fun z => nI_nlt (a := 100 + t) (b := 100) (by omega) (by omega) z.1)]
      exact .inr (.inr ⟨t, len, r1, r2, h0.trans e, h63.trans e, h1.trans r5, h64.trans r6, fun i hi => by rw [c4']; exact r7 i hi⟩)
  refine ⟨rfl, ⟨n', L', K', A', F', M', S', ct, sh⟩, g3.ag (fun a j p => ?_), g4.ag (fun a j p => ?_), .inr ⟨?_, ?_, n', L', K', A', F', M', S', ic0.ag (fun a j p => ?_)⟩, g6.new (fun a q => ?_) (by rw [c4']) ⟨L', S', e10, hL', e72, ios⟩⟩
  · unfold pFR at p
    exact up2 a j (by omega) (by omega) (by omega) (by omega) (by omega)
  · unfold pTR at p
    exact up2 a j (by omega) (by omega) (by omega) (by omega) (by omega)
  · rw [up2 0 8 (by omega) (by omega) (by omega) (by omega) (by omega)]
    exact i1
  · rw [up2 62 17 (by omega) (by omega) (by omega) (by omega) (by omega)]
    exact i2
  · unfold pIM at p
    exact up2 a j (by omega) (by omega) (by omega) (by omega) (by omega)
  · funext j
    exact up2 a j (by omega) (by omega) (by omega) (by omega) (by omega)
