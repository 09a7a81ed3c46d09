/-! copy -/
theorem i64_of {n : Nat} (h : n < 2 ^ 62) : (lN n).toInt = (n : Int) := lg_ofNat_toInt (by omega)
theorem lc1 {i k l : Nat} (hi : i < 2 ^ 31) (hk : k < 2 ^ 31) (hl : l < 2 ^ 31) : (nI 0 < lg_cmp ((nI i).toInt64 + (nI k).toInt64) (nI l).toInt64) ↔ l < i + k := by
  show (0 < lg_cmp _ _) ↔ _
  rw [lg_cmp_gt, nI_l hi, nI_l hk, nI_l hl, lN_add, Int64.lt_iff_toInt_lt, i64_of (by omega), i64_of (by omega)]
  omega
theorem lc2 {i k l : Nat} (hi : i < 2 ^ 31) (hk : k < 2 ^ 31) (hl : l < 2 ^ 31) : (lg_cmp ((nI i).toInt64 + (nI k).toInt64) (nI l).toInt64 ≤ nI 0) ↔ i + k ≤ l := by
  show (lg_cmp _ _ ≤ 0) ↔ _
  rw [lg_cmp_le, nI_l hi, nI_l hk, nI_l hl, lN_add, Int64.le_iff_toInt_le, i64_of (by omega), i64_of (by omega)]
  omega
theorem sub_i {l k : Nat} (hk : k < 2 ^ 31) (hl : l ≤ 160) : (nI l - nI k).toInt = (l : Int) - k := by
  rw [Int32.toInt_sub, nI_toInt (by omega), nI_toInt (by omega)]
  exact Int.bmod_eq_of_le (by omega) (by omega)
theorem cx1 {i k l : Nat} (hi : i < 2 ^ 31) (hk : k < 2 ^ 31) (hl : l ≤ 160) : (nI l - nI k < nI i) ↔ l < i + k := by
  rw [Int32.lt_iff_toInt_lt, sub_i hk hl, nI_toInt hi]
  omega
theorem cx2 {i k l : Nat} (hi : i < 2 ^ 31) (hk : k < 2 ^ 31) (hl : l ≤ 160) : (nI i ≤ nI l - nI k) ↔ i + k ≤ l := by
  rw [Int32.le_iff_toInt_le, sub_i hk hl, nI_toInt hi]
  omega
def cpV (f : Nat → Int64) (sp dp n x : Nat) : Int64 := if dp ≤ x ∧ x < dp + n then f (sp + (x - dp)) else f x
def CQ (f : Nat → Int64) (sp dp n : Nat) (w w' : MW) : Prop := w'.1 = w.1 ∧ (∀ a, a ≠ 65 → w'.2.1 a = w.2.1 a) ∧ w'.2.2 = w.2.2 ∧ ∀ x, w'.2.1 65 x = cpV f sp dp n x
theorem M_up {w : MW} {s q i j k : Nat} (hs : s < 8) (hq : q < 8) (hik : i + k ≤ 160) (hjk : j + k ≤ 160) (h : s ≠ q ∨ j ≤ i) : EI (f_M_copy_251 FU w (nI s) (nI q) (nI i) (nI j) (nI k) (nI 0)) (fun v w' => v = nI 1 ∧ CQ (w.2.1 65) (160 * s + i) (160 * q + j) k w w') := by
  refine lp (σ := MW) (F := fun m w' l => f_M_copy_251 m w' (nI s) (nI q) (nI i) (nI j) (nI k) (nI l)) (fun w' l => CQ (w.2.1 65) (160 * s + i) (160 * q + j) l w w') k 0 w ⟨rfl, fun _ _ => rfl, rfl, fun x => by unfold cpV; rw [if_neg (by omega)]⟩ (by omega) (by omega) ?_ ?_
  · intro m w' hi
    show Ev (f_M_copy_251 (m + 1) w' (nI s) (nI q) (nI i) (nI j) (nI k) (nI k)) _
    rw [f_M_copy_251]
    simp (disch := omega) only [k0, k1, k2, k3, k4, k5, k6, k7, k8, k9, k10, k12, k20, k30, k31, k40, k99, k160, ite_self, nI_add, nI_leI, nI_ltI, nI_eq, nI_clamp, nI_sub', nI_mul, vpb_n, eq_self, implies_true, grd_t, grd_i, if_pos, if_neg, bI_k, bV_k, bx0, bx1, mh0, mh1, rd_s, rd_o, rd_j, rd_2k, rdL_1k, ↓reduceIte, Bool.false_eq_true, Bool.true_eq_false, Nat.add_eq, Nat.zero_add, Nat.add_zero, not_true_eq_false, not_false_eq_true]
    exact Ev.i ⟨rfl, hi⟩
  · intro m w' l _ hl hinv kk
    obtain ⟨i1, i2, i3, i4⟩ := hinv
    show Ev (f_M_copy_251 (m + 1) w' (nI s) (nI q) (nI i) (nI j) (nI k) (nI l)) _
    rw [f_M_copy_251]
    simp (disch := omega) only [k0, k1, k2, k3, k4, k5, k6, k7, k8, k9, k10, k12, k20, k30, k31, k40, k99, k160, ite_self, nI_add, nI_leI, nI_ltI, nI_eq, nI_clamp, nI_sub', nI_mul, vpb_n, eq_self, implies_true, grd_t, grd_i, if_pos, if_neg, bI_k, bV_k, bx0, bx1, mh0, mh1, rd_s, rd_o, rd_j, rd_2k, rdL_1k, ↓reduceIte, Bool.false_eq_true, Bool.true_eq_false, Nat.add_eq, Nat.zero_add, Nat.add_zero, not_true_eq_false, not_false_eq_true]
    refine kk _ ⟨by rw [rdL_1]; exact i1, fun a q => by rw [rdL_o q]; exact i2 a q, by rw [rdL_22]; exact i3, fun x => ?_⟩
    by_cases e : x = 160 * q + j + l
    · subst e
      rw [rdL_s, i4]
      unfold cpV
      rw [if_neg (by omega), if_pos (by omega)]
      exact congrArg (w.2.1 65) (by omega)
    · rw [rdL_j e, i4]
      unfold cpV
      by_cases c : 160 * q + j ≤ x ∧ x < 160 * q + j + l
      · rw [if_pos c, if_pos (by omega)]
      · rw [if_neg c, if_neg (by omega)]
def dI (k t : Nat) : Int32 := nI k - nI (t + 1)
theorem dI_v {k t : Nat} (h : t < k) : dI k t = nI (k - (t + 1)) := pk_sub (by omega)
theorem dI_k {k : Nat} (h : k ≤ 160) : dI k k < nI 0 ∧ dI k k = -nI 1 := by
  have key : ∀ k, k < 161 → dI k k < nI 0 ∧ dI k k = -nI 1 := by decide +kernel
  exact key k (by omega)
theorem dI_s {k t : Nat} (h : t < k) (hk : k ≤ 160) : dI k t + -nI 1 = dI k (t + 1) := by
  rw [dI_v h]
  by_cases q : t + 1 < k
  · rw [dI_v q]
    have e := pk_m1 (k - (t + 1 + 1))
    rw [show k - (t + 1 + 1) + 1 = k - (t + 1) by omega] at e
    exact e
  · have e : k = t + 1 := by omega
    subst e
    rw [(dI_k hk).2, Nat.sub_self]
    decide
def cdV (f : Nat → Int64) (sp dp n t x : Nat) : Int64 := if dp + (n - t) ≤ x ∧ x < dp + n then f (sp + (x - dp)) else f x
theorem M_down {w : MW} {s i j k : Nat} (hs : s < 8) (hik : i + k ≤ 160) (hjk : j + k ≤ 160) (h : i < j) : EI (f_M_copy_203 FU w (nI s) (nI s) (nI i) (nI j) (dI k 0)) (fun v w' => v = nI 1 ∧ CQ (w.2.1 65) (160 * s + i) (160 * s + j) k w w') := by
  refine lp (σ := MW) (F := fun m w' t => f_M_copy_203 m w' (nI s) (nI s) (nI i) (nI j) (dI k t)) (fun w' t => w'.1 = w.1 ∧ (∀ a, a ≠ 65 → w'.2.1 a = w.2.1 a) ∧ w'.2.2 = w.2.2 ∧ ∀ x, w'.2.1 65 x = cdV (w.2.1 65) (160 * s + i) (160 * s + j) k t x) k 0 w ⟨rfl, fun _ _ => rfl, rfl, fun x => by unfold cdV; rw [if_neg (by omega)]⟩ (by omega) (by omega) ?_ ?_
  · intro m w' hi
    obtain ⟨i1, i2, i3, i4⟩ := hi
    show Ev (f_M_copy_203 (m + 1) w' (nI s) (nI s) (nI i) (nI j) (dI k k)) _
    rw [f_M_copy_203]
    have e := (dI_k (k := k) (by omega)).1
    simp (disch := omega) only [k0, k1, k2, k3, k4, k5, k6, k7, k8, k9, k10, k12, k20, k30, k31, k40, k99, k160, ite_self, nI_add, nI_leI, nI_ltI, nI_eq, nI_clamp, nI_sub', nI_mul, vpb_n, eq_self, implies_true, grd_t, grd_i, if_pos, if_neg, bI_k, bV_k, bx0, bx1, mh0, mh1, rd_s, rd_o, rd_j, rd_2k, rdL_1k, ↓reduceIte, Bool.false_eq_true, Bool.true_eq_false, Nat.add_eq, Nat.zero_add, Nat.add_zero, not_true_eq_false, not_false_eq_true, e]
    refine Ev.i ⟨rfl, i1, i2, i3, fun x => ?_⟩
    rw [i4]
    unfold cdV cpV
    by_cases c : 160 * s + j ≤ x ∧ x < 160 * s + j + k
    · rw [if_pos c, if_pos (by omega)]
    · rw [if_neg c, if_neg (by omega)]
  · intro m w' t _ ht hinv kk
    obtain ⟨i1, i2, i3, i4⟩ := hinv
    show Ev (f_M_copy_203 (m + 1) w' (nI s) (nI s) (nI i) (nI j) (dI k t)) _
    have es := dI_s ht (by omega)
    have ev := dI_v ht
    rw [ev] at es
    have e0 : ¬ nI (k - (t + 1)) < nI 0 := nI_pos (by omega)
    rw [f_M_copy_203, ev]
    simp (disch := omega) only [k0, k1, k2, k3, k4, k5, k6, k7, k8, k9, k10, k12, k20, k30, k31, k40, k99, k160, ite_self, nI_add, nI_leI, nI_ltI, nI_eq, nI_clamp, nI_sub', nI_mul, vpb_n, eq_self, implies_true, grd_t, grd_i, if_pos, if_neg, bI_k, bV_k, bx0, bx1, mh0, mh1, rd_s, rd_o, rd_j, rd_2k, rdL_1k, ↓reduceIte, Bool.false_eq_true, Bool.true_eq_false, Nat.add_eq, Nat.zero_add, Nat.add_zero, not_true_eq_false, not_false_eq_true, e0, es]
    refine kk _ ⟨by rw [rdL_1]; exact i1, fun a q => by rw [rdL_o q]; exact i2 a q, by rw [rdL_22]; exact i3, fun x => ?_⟩
    by_cases e : x = 160 * s + j + (k - (t + 1))
    · subst e
      rw [rdL_s, i4]
      unfold cdV
      rw [if_neg (by omega), if_pos (by omega)]
      exact congrArg (w.2.1 65) (by omega)
    · rw [rdL_j e, i4]
      unfold cdV
      by_cases c : 160 * s + j + (k - t) ≤ x ∧ x < 160 * s + j + k
      · rw [if_pos c, if_pos (by omega)]
      · rw [if_neg c, if_neg (by omega)]
/-- a shelf, as copy asks of it -/
theorem held_cases {w : MW} {n s : Nat} (hn : n ≤ 8) (h : SH w n s) :
    (w.1 (35 + 2 * s) 0 = -nI 1 ∧ w.1 63 s = -nI 1) ∨ (∃ m, m < 8 ∧ w.1 (35 + 2 * s) 0 = nI m ∧ w.1 63 s = nI m) ∨ ∃ t len, RW w s t len := by
  rcases h with ⟨h1, h2, h3⟩ | ⟨m, h0, h1, h2, h3⟩ | ⟨t, len, h⟩
  · exact .inl ⟨h1, h2⟩
  · exact .inr (.inl ⟨m, by omega, h1, h2⟩)
  · exact .inr (.inr ⟨t, len, h⟩)
theorem copy_refX {sc : Nat → Int32} {N : Nat} {w : MW} (h : Inv sc N w) {c : Nat} (h1 : 1 ≤ c) (h7 : c ≤ 7) {x1 x2 x3 x4 x5 : Int32} (e : f_M_copy (u_X_refuse w (-nI c)) x1 x2 x3 x4 x5 = some (some (.int (-nI c)), u_M_no (u_X_refuse w (-nI c)) (-nI c))) :
    EI (some (some (.int (-nI c)), u_X_refuse w (-nI c))) (fun v w1 => EI (f_M_copy w1 x1 x2 x3 x4 x5) (fun v' w2 => v' = v ∧ Inv sc N w2)) := by
  refine Ev.i ?_
  rw [e]
  exact Ev.i ⟨rfl, inv_ref h h1 h7⟩
theorem sim_copy (x1 x2 x3 x4 x5 : Int32) : SIM (fun w => f_X_copy w x1 x2 x3 x4 x5) (fun w => f_M_copy w x1 x2 x3 x4 x5) := by
  intro sc N w h
  have h0 := h
  obtain ⟨⟨n, L, K, A, F, M, S, g1, g2⟩, g3, g4, g5, g6⟩ := h0
  have hn := g1.2.2.1.1
  show EI (f_X_copy w x1 x2 x3 x4 x5) (fun v w1 => EI (f_M_copy w1 x1 x2 x3 x4 x5) (fun v' w2 => v' = v ∧ Inv sc N w2))
  rcases tri x1 8 (by omega) with hb | ⟨s, hs, rfl⟩
  · unfold f_X_copy
    rw [isSh_b hb]
    simp (disch := omega) only [k0, k1, k2, k3, k4, k5, k6, k7, k8, k9, k10, k12, k20, k30, k31, k40, k99, k160, ite_self, nI_add, nI_leI, nI_ltI, nI_eq, nI_clamp, nI_sub', nI_mul, vpb_n, eq_self, implies_true, grd_t, grd_i, if_pos, if_neg, bI_k, bV_k, bx0, bx1, mh0, mh1, rd_s, rd_o, rd_j, rd_2k, rdL_1k, ↓reduceIte, Bool.false_eq_true, Bool.true_eq_false, Nat.add_eq, Nat.zero_add, Nat.add_zero, not_true_eq_false, not_false_eq_true, v_ref]
    refine copy_refX h (by omega) (by omega) ?_
    unfold f_M_copy
    rw [w7_b hb]
    simp (disch := omega) only [k0, k1, k2, k3, k4, k5, k6, k7, k8, k9, k10, k12, k20, k30, k31, k40, k99, k160, ite_self, nI_add, nI_leI, nI_ltI, nI_eq, nI_clamp, nI_sub', nI_mul, vpb_n, eq_self, implies_true, grd_t, grd_i, if_pos, if_neg, bI_k, bV_k, bx0, bx1, mh0, mh1, rd_s, rd_o, rd_j, rd_2k, rdL_1k, ↓reduceIte, Bool.false_eq_true, Bool.true_eq_false, Nat.add_eq, Nat.zero_add, Nat.add_zero, not_true_eq_false, not_false_eq_true, v_no]
  rcases tri x2 8 (by omega) with hb | ⟨q, hq, rfl⟩
  · unfold f_X_copy
    rw [isSh_g hs, isSh_b hb]
    simp (disch := omega) only [k0, k1, k2, k3, k4, k5, k6, k7, k8, k9, k10, k12, k20, k30, k31, k40, k99, k160, ite_self, nI_add, nI_leI, nI_ltI, nI_eq, nI_clamp, nI_sub', nI_mul, vpb_n, eq_self, implies_true, grd_t, grd_i, if_pos, if_neg, bI_k, bV_k, bx0, bx1, mh0, mh1, rd_s, rd_o, rd_j, rd_2k, rdL_1k, ↓reduceIte, Bool.false_eq_true, Bool.true_eq_false, Nat.add_eq, Nat.zero_add, Nat.add_zero, not_true_eq_false, not_false_eq_true, v_ref]
    refine copy_refX h (by omega) (by omega) ?_
    unfold f_M_copy
    rw [w7_g hs, w7_b hb]
    simp (disch := omega) only [k0, k1, k2, k3, k4, k5, k6, k7, k8, k9, k10, k12, k20, k30, k31, k40, k99, k160, ite_self, nI_add, nI_leI, nI_ltI, nI_eq, nI_clamp, nI_sub', nI_mul, vpb_n, eq_self, implies_true, grd_t, grd_i, if_pos, if_neg, bI_k, bV_k, bx0, bx1, mh0, mh1, rd_s, rd_o, rd_j, rd_2k, rdL_1k, ↓reduceIte, Bool.false_eq_true, Bool.true_eq_false, Nat.add_eq, Nat.zero_add, Nat.add_zero, not_true_eq_false, not_false_eq_true, v_no]
  obtain ⟨n1, n2, n3, n4, n5⟩ := neg_lt0 (c := 1) (by omega) (by omega)
  have nm : ∀ m, m < 8 → ¬ nI m = -nI 1 ∧ ¬ -nI 1 = nI m := fun m hm => ⟨nI_ne_m1 (by omega), fun e => nI_ne_m1 (by omega) e.symm⟩
  have kX := isSh_g (w := w) hs
  have kX2 := isSh_g (w := w) hq
  have kM : ∀ w', v_M_within w' (nI s) (nI 0) (nI 7) = nI 1 := fun w' => w7_g hs
  have kM2 : ∀ w', v_M_within w' (nI q) (nI 0) (nI 7) = nI 1 := fun w' => w7_g hq
  have xo : ∀ c a, a ≠ 51 → (u_X_refuse w (-nI c)).1 a = w.1 a := fun c a e => xr_o e
  have x63 : ∀ c, (u_X_refuse w (-nI c)).1 63 = w.1 63 := fun c => xr_o (by omega)
  have x64 : ∀ c, (u_X_refuse w (-nI c)).1 64 = w.1 64 := fun c => xr_o (by omega)
  rcases held_cases hn (g2 s hs) with ⟨a1, a2⟩ | ⟨m, hm, a1, a2⟩ | ⟨t, len, hr⟩
  · -- nothing in the first
    rcases held_cases hn (g2 q hq) with ⟨b1, b2⟩ | ⟨m', hm', b1, b2⟩ | ⟨t', len', hr'⟩
    · unfold f_X_copy v_Sh_isMan v_Sh_isRow
      simp (disch := omega) only [k0, k1, k2, k3, k4, k5, k6, k7, k8, k9, k10, k12, k20, k30, k31, k40, k99, k160, ite_self, nI_add, nI_leI, nI_ltI, nI_eq, nI_clamp, nI_sub', nI_mul, vpb_n, eq_self, implies_true, grd_t, grd_i, if_pos, if_neg, bI_k, bV_k, bx0, bx1, mh0, mh1, rd_s, rd_o, rd_j, rd_2k, rdL_1k, ↓reduceIte, Bool.false_eq_true, Bool.true_eq_false, Nat.add_eq, Nat.zero_add, Nat.add_zero, not_true_eq_false, not_false_eq_true, kX, kX2, a1, b1, n1, n5, k100, v_ref]
      refine copy_refX h (by omega) (by omega) ?_
      unfold f_M_copy v_M_isRow
      simp (disch := omega) only [k0, k1, k2, k3, k4, k5, k6, k7, k8, k9, k10, k12, k20, k30, k31, k40, k99, k160, ite_self, nI_add, nI_leI, nI_ltI, nI_eq, nI_clamp, nI_sub', nI_mul, vpb_n, eq_self, implies_true, grd_t, grd_i, if_pos, if_neg, bI_k, bV_k, bx0, bx1, mh0, mh1, rd_s, rd_o, rd_j, rd_2k, rdL_1k, ↓reduceIte, Bool.false_eq_true, Bool.true_eq_false, Nat.add_eq, Nat.zero_add, Nat.add_zero, not_true_eq_false, not_false_eq_true, kM, kM2, x63, a2, b2, n1, n2, n5, k100, v_no]
    · unfold f_X_copy v_Sh_isMan v_Sh_isRow
      simp (disch := omega) only [k0, k1, k2, k3, k4, k5, k6, k7, k8, k9, k10, k12, k20, k30, k31, k40, k99, k160, ite_self, nI_add, nI_leI, nI_ltI, nI_eq, nI_clamp, nI_sub', nI_mul, vpb_n, eq_self, implies_true, grd_t, grd_i, if_pos, if_neg, bI_k, bV_k, bx0, bx1, mh0, mh1, rd_s, rd_o, rd_j, rd_2k, rdL_1k, ↓reduceIte, Bool.false_eq_true, Bool.true_eq_false, Nat.add_eq, Nat.zero_add, Nat.add_zero, not_true_eq_false, not_false_eq_true, kX, kX2, a1, b1, n1, n5, k100, v_ref]
      refine copy_refX h (by omega) (by omega) ?_
      unfold f_M_copy v_M_isRow
      simp (disch := omega) only [k0, k1, k2, k3, k4, k5, k6, k7, k8, k9, k10, k12, k20, k30, k31, k40, k99, k160, ite_self, nI_add, nI_leI, nI_ltI, nI_eq, nI_clamp, nI_sub', nI_mul, vpb_n, eq_self, implies_true, grd_t, grd_i, if_pos, if_neg, bI_k, bV_k, bx0, bx1, mh0, mh1, rd_s, rd_o, rd_j, rd_2k, rdL_1k, ↓reduceIte, Bool.false_eq_true, Bool.true_eq_false, Nat.add_eq, Nat.zero_add, Nat.add_zero, not_true_eq_false, not_false_eq_true, kM, kM2, x63, a2, b2, n1, n2, n5, k100, v_no]
    · obtain ⟨r1, r2, r3, r4, r5, r6, r7⟩ := hr'
      unfold f_X_copy v_Sh_isMan v_Sh_isRow
      simp (disch := omega) only [k0, k1, k2, k3, k4, k5, k6, k7, k8, k9, k10, k12, k20, k30, k31, k40, k99, k160, ite_self, nI_add, nI_leI, nI_ltI, nI_eq, nI_clamp, nI_sub', nI_mul, vpb_n, eq_self, implies_true, grd_t, grd_i, if_pos, if_neg, bI_k, bV_k, bx0, bx1, mh0, mh1, rd_s, rd_o, rd_j, rd_2k, rdL_1k, ↓reduceIte, Bool.false_eq_true, Bool.true_eq_false, Nat.add_eq, Nat.zero_add, Nat.add_zero, not_true_eq_false, not_false_eq_true, kX, kX2, a1, r3, n1, n5, k100, v_ref]
      refine copy_refX h (by omega) (by omega) ?_
      unfold f_M_copy v_M_isRow
      simp (disch := omega) only [k0, k1, k2, k3, k4, k5, k6, k7, k8, k9, k10, k12, k20, k30, k31, k40, k99, k160, ite_self, nI_add, nI_leI, nI_ltI, nI_eq, nI_clamp, nI_sub', nI_mul, vpb_n, eq_self, implies_true, grd_t, grd_i, if_pos, if_neg, bI_k, bV_k, bx0, bx1, mh0, mh1, rd_s, rd_o, rd_j, rd_2k, rdL_1k, ↓reduceIte, Bool.false_eq_true, Bool.true_eq_false, Nat.add_eq, Nat.zero_add, Nat.add_zero, not_true_eq_false, not_false_eq_true, kM, kM2, x63, a2, r4, n1, n2, n5, k100, v_no]
  · -- a courtier in the first
    rcases held_cases hn (g2 q hq) with ⟨b1, b2⟩ | ⟨m', hm', b1, b2⟩ | ⟨t', len', hr'⟩
    · unfold f_X_copy v_Sh_isMan v_Sh_isRow
      simp (disch := omega) only [k0, k1, k2, k3, k4, k5, k6, k7, k8, k9, k10, k12, k20, k30, k31, k40, k99, k160, ite_self, nI_add, nI_leI, nI_ltI, nI_eq, nI_clamp, nI_sub', nI_mul, vpb_n, eq_self, implies_true, grd_t, grd_i, if_pos, if_neg, bI_k, bV_k, bx0, bx1, mh0, mh1, rd_s, rd_o, rd_j, rd_2k, rdL_1k, ↓reduceIte, Bool.false_eq_true, Bool.true_eq_false, Nat.add_eq, Nat.zero_add, Nat.add_zero, not_true_eq_false, not_false_eq_true, kX, kX2, a1, b1, n1, n5, k100, v_ref]
      refine copy_refX h (by omega) (by omega) ?_
      unfold f_M_copy v_M_isRow
      simp (disch := omega) only [k0, k1, k2, k3, k4, k5, k6, k7, k8, k9, k10, k12, k20, k30, k31, k40, k99, k160, ite_self, nI_add, nI_leI, nI_ltI, nI_eq, nI_clamp, nI_sub', nI_mul, vpb_n, eq_self, implies_true, grd_t, grd_i, if_pos, if_neg, bI_k, bV_k, bx0, bx1, mh0, mh1, rd_s, rd_o, rd_j, rd_2k, rdL_1k, ↓reduceIte, Bool.false_eq_true, Bool.true_eq_false, Nat.add_eq, Nat.zero_add, Nat.add_zero, not_true_eq_false, not_false_eq_true, kM, kM2, x63, a2, b2, n1, n2, n5, k100, v_no]
    · unfold f_X_copy v_Sh_isMan v_Sh_isRow
      simp (disch := omega) only [k0, k1, k2, k3, k4, k5, k6, k7, k8, k9, k10, k12, k20, k30, k31, k40, k99, k160, ite_self, nI_add, nI_leI, nI_ltI, nI_eq, nI_clamp, nI_sub', nI_mul, vpb_n, eq_self, implies_true, grd_t, grd_i, if_pos, if_neg, bI_k, bV_k, bx0, bx1, mh0, mh1, rd_s, rd_o, rd_j, rd_2k, rdL_1k, ↓reduceIte, Bool.false_eq_true, Bool.true_eq_false, Nat.add_eq, Nat.zero_add, Nat.add_zero, not_true_eq_false, not_false_eq_true, kX, kX2, a1, b1, n1, n5, k100, v_ref]
      refine copy_refX h (by omega) (by omega) ?_
      unfold f_M_copy v_M_isRow
      simp (disch := omega) only [k0, k1, k2, k3, k4, k5, k6, k7, k8, k9, k10, k12, k20, k30, k31, k40, k99, k160, ite_self, nI_add, nI_leI, nI_ltI, nI_eq, nI_clamp, nI_sub', nI_mul, vpb_n, eq_self, implies_true, grd_t, grd_i, if_pos, if_neg, bI_k, bV_k, bx0, bx1, mh0, mh1, rd_s, rd_o, rd_j, rd_2k, rdL_1k, ↓reduceIte, Bool.false_eq_true, Bool.true_eq_false, Nat.add_eq, Nat.zero_add, Nat.add_zero, not_true_eq_false, not_false_eq_true, kM, kM2, x63, a2, b2, n1, n2, n5, k100, v_no]
    · obtain ⟨r1, r2, r3, r4, r5, r6, r7⟩ := hr'
      unfold f_X_copy v_Sh_isMan v_Sh_isRow
      simp (disch := omega) only [k0, k1, k2, k3, k4, k5, k6, k7, k8, k9, k10, k12, k20, k30, k31, k40, k99, k160, ite_self, nI_add, nI_leI, nI_ltI, nI_eq, nI_clamp, nI_sub', nI_mul, vpb_n, eq_self, implies_true, grd_t, grd_i, if_pos, if_neg, bI_k, bV_k, bx0, bx1, mh0, mh1, rd_s, rd_o, rd_j, rd_2k, rdL_1k, ↓reduceIte, Bool.false_eq_true, Bool.true_eq_false, Nat.add_eq, Nat.zero_add, Nat.add_zero, not_true_eq_false, not_false_eq_true, kX, kX2, a1, r3, n1, n5, k100, v_ref]
      refine copy_refX h (by omega) (by omega) ?_
      unfold f_M_copy v_M_isRow
      simp (disch := omega) only [k0, k1, k2, k3, k4, k5, k6, k7, k8, k9, k10, k12, k20, k30, k31, k40, k99, k160, ite_self, nI_add, nI_leI, nI_ltI, nI_eq, nI_clamp, nI_sub', nI_mul, vpb_n, eq_self, implies_true, grd_t, grd_i, if_pos, if_neg, bI_k, bV_k, bx0, bx1, mh0, mh1, rd_s, rd_o, rd_j, rd_2k, rdL_1k, ↓reduceIte, Bool.false_eq_true, Bool.true_eq_false, Nat.add_eq, Nat.zero_add, Nat.add_zero, not_true_eq_false, not_false_eq_true, kM, kM2, x63, a2, r4, n1, n2, n5, k100, v_no]
  · obtain ⟨s1, s2, s3, s4, s5, s6, s7⟩ := hr
    rcases held_cases hn (g2 q hq) with ⟨b1, b2⟩ | ⟨m', hm', b1, b2⟩ | ⟨t', len', hr'⟩
    · unfold f_X_copy v_Sh_isMan v_Sh_isRow
      simp (disch := omega) only [k0, k1, k2, k3, k4, k5, k6, k7, k8, k9, k10, k12, k20, k30, k31, k40, k99, k160, ite_self, nI_add, nI_leI, nI_ltI, nI_eq, nI_clamp, nI_sub', nI_mul, vpb_n, eq_self, implies_true, grd_t, grd_i, if_pos, if_neg, bI_k, bV_k, bx0, bx1, mh0, mh1, rd_s, rd_o, rd_j, rd_2k, rdL_1k, ↓reduceIte, Bool.false_eq_true, Bool.true_eq_false, Nat.add_eq, Nat.zero_add, Nat.add_zero, not_true_eq_false, not_false_eq_true, kX, kX2, s3, b1, n1, n5, k100, v_ref]
      refine copy_refX h (by omega) (by omega) ?_
      unfold f_M_copy v_M_isRow
      simp (disch := omega) only [k0, k1, k2, k3, k4, k5, k6, k7, k8, k9, k10, k12, k20, k30, k31, k40, k99, k160, ite_self, nI_add, nI_leI, nI_ltI, nI_eq, nI_clamp, nI_sub', nI_mul, vpb_n, eq_self, implies_true, grd_t, grd_i, if_pos, if_neg, bI_k, bV_k, bx0, bx1, mh0, mh1, rd_s, rd_o, rd_j, rd_2k, rdL_1k, ↓reduceIte, Bool.false_eq_true, Bool.true_eq_false, Nat.add_eq, Nat.zero_add, Nat.add_zero, not_true_eq_false, not_false_eq_true, kM, kM2, x63, s4, b2, n1, n2, n5, k100, v_no]
    · unfold f_X_copy v_Sh_isMan v_Sh_isRow
      simp (disch := omega) only [k0, k1, k2, k3, k4, k5, k6, k7, k8, k9, k10, k12, k20, k30, k31, k40, k99, k160, ite_self, nI_add, nI_leI, nI_ltI, nI_eq, nI_clamp, nI_sub', nI_mul, vpb_n, eq_self, implies_true, grd_t, grd_i, if_pos, if_neg, bI_k, bV_k, bx0, bx1, mh0, mh1, rd_s, rd_o, rd_j, rd_2k, rdL_1k, ↓reduceIte, Bool.false_eq_true, Bool.true_eq_false, Nat.add_eq, Nat.zero_add, Nat.add_zero, not_true_eq_false, not_false_eq_true, kX, kX2, s3, b1, n1, n5, k100, v_ref]
      refine copy_refX h (by omega) (by omega) ?_
      unfold f_M_copy v_M_isRow
      simp (disch := omega) only [k0, k1, k2, k3, k4, k5, k6, k7, k8, k9, k10, k12, k20, k30, k31, k40, k99, k160, ite_self, nI_add, nI_leI, nI_ltI, nI_eq, nI_clamp, nI_sub', nI_mul, vpb_n, eq_self, implies_true, grd_t, grd_i, if_pos, if_neg, bI_k, bV_k, bx0, bx1, mh0, mh1, rd_s, rd_o, rd_j, rd_2k, rdL_1k, ↓reduceIte, Bool.false_eq_true, Bool.true_eq_false, Nat.add_eq, Nat.zero_add, Nat.add_zero, not_true_eq_false, not_false_eq_true, kM, kM2, x63, s4, b2, n1, n2, n5, k100, v_no]
    · obtain ⟨r1, r2, r3, r4, r5, r6, r7⟩ := hr'
      by_cases ht : t = t'
      · subst ht
        -- two rows of one sort
        by_cases c5 : nI 0 ≤ x5
        · obtain ⟨k, hk, rfl⟩ : ∃ k, k < 2 ^ 31 ∧ x5 = nI k := nI_of (Int32.not_lt.mpr c5)
          by_cases c3 : x3 < nI 0
          · unfold f_X_copy v_Sh_isMan v_Sh_isRow
            simp (disch := omega) only [k0, k1, k2, k3, k4, k5, k6, k7, k8, k9, k10, k12, k20, k30, k31, k40, k99, k160, ite_self, nI_add, nI_leI, nI_ltI, nI_eq, nI_clamp, nI_sub', nI_mul, vpb_n, eq_self, implies_true, grd_t, grd_i, if_pos, if_neg, bI_k, bV_k, bx0, bx1, mh0, mh1, rd_s, rd_o, rd_j, rd_2k, rdL_1k, ↓reduceIte, Bool.false_eq_true, Bool.true_eq_false, Nat.add_eq, Nat.zero_add, Nat.add_zero, not_true_eq_false, not_false_eq_true, kX, kX2, s3, r3, c3, k100, v_ref]
            refine copy_refX h (by omega) (by omega) ?_
            unfold f_M_copy v_M_isRow
            simp (disch := omega) only [k0, k1, k2, k3, k4, k5, k6, k7, k8, k9, k10, k12, k20, k30, k31, k40, k99, k160, ite_self, nI_add, nI_leI, nI_ltI, nI_eq, nI_clamp, nI_sub', nI_mul, vpb_n, eq_self, implies_true, grd_t, grd_i, if_pos, if_neg, bI_k, bV_k, bx0, bx1, mh0, mh1, rd_s, rd_o, rd_j, rd_2k, rdL_1k, ↓reduceIte, Bool.false_eq_true, Bool.true_eq_false, Nat.add_eq, Nat.zero_add, Nat.add_zero, not_true_eq_false, not_false_eq_true, kM, kM2, x63, s4, r4, c3, k100, v_no]
          obtain ⟨i, hi, rfl⟩ : ∃ i, i < 2 ^ 31 ∧ x3 = nI i := nI_of c3
          by_cases c4 : x4 < nI 0
          · unfold f_X_copy v_Sh_isMan v_Sh_isRow
            simp (disch := omega) only [k0, k1, k2, k3, k4, k5, k6, k7, k8, k9, k10, k12, k20, k30, k31, k40, k99, k160, ite_self, nI_add, nI_leI, nI_ltI, nI_eq, nI_clamp, nI_sub', nI_mul, vpb_n, eq_self, implies_true, grd_t, grd_i, if_pos, if_neg, bI_k, bV_k, bx0, bx1, mh0, mh1, rd_s, rd_o, rd_j, rd_2k, rdL_1k, ↓reduceIte, Bool.false_eq_true, Bool.true_eq_false, Nat.add_eq, Nat.zero_add, Nat.add_zero, not_true_eq_false, not_false_eq_true, kX, kX2, s3, r3, c3, c4, k100, v_ref]
            refine copy_refX h (by omega) (by omega) ?_
            unfold f_M_copy v_M_isRow
            simp (disch := omega) only [k0, k1, k2, k3, k4, k5, k6, k7, k8, k9, k10, k12, k20, k30, k31, k40, k99, k160, ite_self, nI_add, nI_leI, nI_ltI, nI_eq, nI_clamp, nI_sub', nI_mul, vpb_n, eq_self, implies_true, grd_t, grd_i, if_pos, if_neg, bI_k, bV_k, bx0, bx1, mh0, mh1, rd_s, rd_o, rd_j, rd_2k, rdL_1k, ↓reduceIte, Bool.false_eq_true, Bool.true_eq_false, Nat.add_eq, Nat.zero_add, Nat.add_zero, not_true_eq_false, not_false_eq_true, kM, kM2, x63, s4, r4, c3, c4, k100, v_no]
          obtain ⟨j, hj, rfl⟩ : ∃ j, j < 2 ^ 31 ∧ x4 = nI j := nI_of c4
          have X1 := cx1 hi hk s2
          have X2 := cx2 hj hk r2
          have M1 := lc1 hi hk (show len < 2 ^ 31 by omega)
          have M2 := lc2 hj hk (show len' < 2 ^ 31 by omega)
          by_cases q1 : len < i + k
          · have X1 := X1.mpr q1
            have M1 := M1.mpr q1
            unfold f_X_copy v_Sh_isMan v_Sh_isRow
            simp (disch := omega) only [k0, k1, k2, k3, k4, k5, k6, k7, k8, k9, k10, k12, k20, k30, k31, k40, k99, k160, ite_self, nI_add, nI_leI, nI_ltI, nI_eq, nI_clamp, nI_sub', nI_mul, vpb_n, eq_self, implies_true, grd_t, grd_i, if_pos, if_neg, bI_k, bV_k, bx0, bx1, mh0, mh1, rd_s, rd_o, rd_j, rd_2k, rdL_1k, ↓reduceIte, Bool.false_eq_true, Bool.true_eq_false, Nat.add_eq, Nat.zero_add, Nat.add_zero, not_true_eq_false, not_false_eq_true, kX, kX2, s3, r3, s5, r5, c3, c4, X1, k100, v_ref]
            refine copy_refX h (by omega) (by omega) ?_
            unfold f_M_copy v_M_isRow
            simp (disch := omega) only [k0, k1, k2, k3, k4, k5, k6, k7, k8, k9, k10, k12, k20, k30, k31, k40, k99, k160, ite_self, nI_add, nI_leI, nI_ltI, nI_eq, nI_clamp, nI_sub', nI_mul, vpb_n, eq_self, implies_true, grd_t, grd_i, if_pos, if_neg, bI_k, bV_k, bx0, bx1, mh0, mh1, rd_s, rd_o, rd_j, rd_2k, rdL_1k, ↓reduceIte, Bool.false_eq_true, Bool.true_eq_false, Nat.add_eq, Nat.zero_add, Nat.add_zero, not_true_eq_false, not_false_eq_true, kM, kM2, x63, x64, s4, r4, s6, r6, c3, c4, M1, k100, v_no]
          have X1 : ¬ nI len - nI k < nI i := fun e => q1 (X1.mp e)
          have M1 : ¬ nI 0 < lg_cmp ((nI i).toInt64 + (nI k).toInt64) (nI len).toInt64 := fun e => q1 (M1.mp e)
          have k0' : nI k - nI 0 = nI k := by rw [pk_sub (by omega), Nat.sub_zero]
          by_cases q2 : j + k ≤ len'
          · have X2 := X2.mpr q2
            have M2 := M2.mpr q2
            have G : ¬ nI i < nI 0 ∧ ¬ nI j < nI 0 ∧ ¬ nI k < nI 0 ∧ i + k ≤ 160 ∧ j + k ≤ 160 := ⟨c3, c4, nI_pos (by omega), by omega, by omega⟩
            have eX : f_X_copy w (nI s) (nI q) (nI i) (nI j) (nI k) = some (some (.int (nI 1)), setB w (35 + 2 * q + 1) (va_cpy (w.2.1 (35 + 2 * s + 1)) (w.2.1 (35 + 2 * q + 1)) i j k)) := by
              unfold f_X_copy v_Sh_isMan v_Sh_isRow
              simp (disch := omega) only [k0, k1, k2, k3, k4, k5, k6, k7, k8, k9, k10, k12, k20, k30, k31, k40, k99, k160, ite_self, nI_add, nI_leI, nI_ltI, nI_eq, nI_clamp, nI_sub', nI_mul, vpb_n, eq_self, implies_true, grd_t, grd_i, if_pos, if_neg, bI_k, bV_k, bx0, bx1, mh0, mh1, rd_s, rd_o, rd_j, rd_2k, rdL_1k, ↓reduceIte, Bool.false_eq_true, Bool.true_eq_false, Nat.add_eq, Nat.zero_add, Nat.add_zero, not_true_eq_false, not_false_eq_true, kX, kX2, s3, r3, s5, r5, c3, c4, X1, X2, k100, G, and_self]
            rw [eX]
            refine Ev.i ?_
            generalize hw1 : setB w (35 + 2 * q + 1) (va_cpy (w.2.1 (35 + 2 * s + 1)) (w.2.1 (35 + 2 * q + 1)) i j k) = w1
            have e1 : w1.1 = w.1 := by rw [← hw1]; rfl
            have e2 : ∀ a, a ≠ 35 + 2 * q + 1 → w1.2.1 a = w.2.1 a := fun a e => by rw [← hw1]; exact setB_o e
            have e3 : w1.2.1 (35 + 2 * q + 1) = va_cpy (w.2.1 (35 + 2 * s + 1)) (w.2.1 (35 + 2 * q + 1)) i j k := by rw [← hw1]; exact setB_s
            have e4 : w1.2.2 = w.2.2 := by rw [← hw1]; rfl
            have e65 := e2 65 (by omega)
            have fin : ∀ w2, CQ (w1.2.1 65) (160 * s + i) (160 * q + j) k w1 w2 → Inv sc N w2 := by
              intro w2 h2
              obtain ⟨d1, d2, d3, d4⟩ := h2
              refine inv_sh h hq (fun a l _ _ _ => by rw [d1, e1]) (fun a p1 p2 => by rw [d2 a p2, e2 a p1]) (fun l p1 => ?_) (by rw [d3, e4]) (fun n' _ _ => .inr (.inr ⟨t, len', r1, r2, by rw [d1, e1]; exact r3, by rw [d1, e1]; exact r4, by rw [d1, e1]; exact r5, by rw [d1, e1]; exact r6, fun l hl => ?_⟩))
              · rw [d4]
                unfold cpV
                rw [if_neg (by omega), e65]
              · rw [d2 _ (by omega), d4, e3, e65]
                unfold cpV va_cpy
                by_cases c : j ≤ l ∧ l < j + k
                · rw [if_pos c, if_pos (by omega), s7 _ (by omega)]
                  exact congrArg (w.2.1 65) (by omega)
                · rw [if_neg c, if_neg (by omega)]
                  exact r7 l hl
            have c1' : ∀ x, w1.1 63 x = w.1 63 x := fun x => by rw [e1]
            have c2' : ∀ x, w1.1 64 x = w.1 64 x := fun x => by rw [e1]
            by_cases hsq : s = q
            · subst hsq
              have el : len' = len := (nI_eq (by omega) (by omega)).mp (r6.symm.trans s6)
              subst el
              by_cases hji : j ≤ i
              · have eM : f_M_copy w1 (nI s) (nI s) (nI i) (nI j) (nI k) = f_M_copy_251 FU w1 (nI s) (nI s) (nI i) (nI j) (nI k) (nI 0) := by
                  unfold f_M_copy v_M_isRow
                  simp (disch := omega) only [k0, k1, k2, k3, k4, k5, k6, k7, k8, k9, k10, k12, k20, k30, k31, k40, k99, k160, ite_self, nI_add, nI_leI, nI_ltI, nI_eq, nI_clamp, nI_sub', nI_mul, vpb_n, eq_self, implies_true, grd_t, grd_i, if_pos, if_neg, bI_k, bV_k, bx0, bx1, mh0, mh1, rd_s, rd_o, rd_j, rd_2k, rdL_1k, ↓reduceIte, Bool.false_eq_true, Bool.true_eq_false, Nat.add_eq, Nat.zero_add, Nat.add_zero, not_true_eq_false, not_false_eq_true, kM, kM2, c1', c2', s4, r4, s6, r6, c3, c4, M1, M2, k100]
                rw [eM]
                refine EI.mono (M_up hs hs (by omega) (by omega) (.inr hji)) (fun v w2 h2 => ⟨h2.1, fin w2 h2.2⟩)
              · have eM : f_M_copy w1 (nI s) (nI s) (nI i) (nI j) (nI k) = f_M_copy_203 FU w1 (nI s) (nI s) (nI i) (nI j) (nI k - nI 1) := by
                  unfold f_M_copy v_M_isRow
                  simp (disch := omega) only [k0, k1, k2, k3, k4, k5, k6, k7, k8, k9, k10, k12, k20, k30, k31, k40, k99, k160, ite_self, nI_add, nI_leI, nI_ltI, nI_eq, nI_clamp, nI_sub', nI_mul, vpb_n, eq_self, implies_true, grd_t, grd_i, if_pos, if_neg, bI_k, bV_k, bx0, bx1, mh0, mh1, rd_s, rd_o, rd_j, rd_2k, rdL_1k, ↓reduceIte, Bool.false_eq_true, Bool.true_eq_false, Nat.add_eq, Nat.zero_add, Nat.add_zero, not_true_eq_false, not_false_eq_true, kM, kM2, c1', c2', s4, r4, s6, r6, c3, c4, M1, M2, k100]
                rw [eM]
                refine EI.mono (M_down hs (by omega) (by omega) (by omega)) (fun v w2 h2 => ⟨h2.1, fin w2 h2.2⟩)
            · have eM : f_M_copy w1 (nI s) (nI q) (nI i) (nI j) (nI k) = f_M_copy_251 FU w1 (nI s) (nI q) (nI i) (nI j) (nI k) (nI 0) := by
                unfold f_M_copy v_M_isRow
                simp (disch := omega) only [k0, k1, k2, k3, k4, k5, k6, k7, k8, k9, k10, k12, k20, k30, k31, k40, k99, k160, ite_self, nI_add, nI_leI, nI_ltI, nI_eq, nI_clamp, nI_sub', nI_mul, vpb_n, eq_self, implies_true, grd_t, grd_i, if_pos, if_neg, bI_k, bV_k, bx0, bx1, mh0, mh1, rd_s, rd_o, rd_j, rd_2k, rdL_1k, ↓reduceIte, Bool.false_eq_true, Bool.true_eq_false, Nat.add_eq, Nat.zero_add, Nat.add_zero, not_true_eq_false, not_false_eq_true, kM, kM2, c1', c2', s4, r4, s6, r6, c3, c4, M1, M2, k100]
              rw [eM]
              refine EI.mono (M_up hs hq (by omega) (by omega) (.inl hsq)) (fun v w2 h2 => ⟨h2.1, fin w2 h2.2⟩)
          · have X2 : ¬ nI j ≤ nI len' - nI k := fun e => q2 (X2.mp e)
            have M2 : ¬ lg_cmp ((nI j).toInt64 + (nI k).toInt64) (nI len').toInt64 ≤ nI 0 := fun e => q2 (M2.mp e)
            unfold f_X_copy v_Sh_isMan v_Sh_isRow
            simp (disch := omega) only [k0, k1, k2, k3, k4, k5, k6, k7, k8, k9, k10, k12, k20, k30, k31, k40, k99, k160, ite_self, nI_add, nI_leI, nI_ltI, nI_eq, nI_clamp, nI_sub', nI_mul, vpb_n, eq_self, implies_true, grd_t, grd_i, if_pos, if_neg, bI_k, bV_k, bx0, bx1, mh0, mh1, rd_s, rd_o, rd_j, rd_2k, rdL_1k, ↓reduceIte, Bool.false_eq_true, Bool.true_eq_false, Nat.add_eq, Nat.zero_add, Nat.add_zero, not_true_eq_false, not_false_eq_true, kX, kX2, s3, r3, s5, r5, c3, c4, X1, X2, k100, v_ref]
            refine copy_refX h (by omega) (by omega) ?_
            unfold f_M_copy v_M_isRow
            simp (disch := omega) only [k0, k1, k2, k3, k4, k5, k6, k7, k8, k9, k10, k12, k20, k30, k31, k40, k99, k160, ite_self, nI_add, nI_leI, nI_ltI, nI_eq, nI_clamp, nI_sub', nI_mul, vpb_n, eq_self, implies_true, grd_t, grd_i, if_pos, if_neg, bI_k, bV_k, bx0, bx1, mh0, mh1, rd_s, rd_o, rd_j, rd_2k, rdL_1k, ↓reduceIte, Bool.false_eq_true, Bool.true_eq_false, Nat.add_eq, Nat.zero_add, Nat.add_zero, not_true_eq_false, not_false_eq_true, kM, kM2, x63, x64, s4, r4, s6, r6, c3, c4, M1, M2, k100, v_no]
        · unfold f_X_copy v_Sh_isMan v_Sh_isRow
          simp (disch := omega) only [k0, k1, k2, k3, k4, k5, k6, k7, k8, k9, k10, k12, k20, k30, k31, k40, k99, k160, ite_self, nI_add, nI_leI, nI_ltI, nI_eq, nI_clamp, nI_sub', nI_mul, vpb_n, eq_self, implies_true, grd_t, grd_i, if_pos, if_neg, bI_k, bV_k, bx0, bx1, mh0, mh1, rd_s, rd_o, rd_j, rd_2k, rdL_1k, ↓reduceIte, Bool.false_eq_true, Bool.true_eq_false, Nat.add_eq, Nat.zero_add, Nat.add_zero, not_true_eq_false, not_false_eq_true, kX, kX2, s3, r3, c5, k100, v_ref]
          refine copy_refX h (by omega) (by omega) ?_
          unfold f_M_copy v_M_isRow
          simp (disch := omega) only [k0, k1, k2, k3, k4, k5, k6, k7, k8, k9, k10, k12, k20, k30, k31, k40, k99, k160, ite_self, nI_add, nI_leI, nI_ltI, nI_eq, nI_clamp, nI_sub', nI_mul, vpb_n, eq_self, implies_true, grd_t, grd_i, if_pos, if_neg, bI_k, bV_k, bx0, bx1, mh0, mh1, rd_s, rd_o, rd_j, rd_2k, rdL_1k, ↓reduceIte, Bool.false_eq_true, Bool.true_eq_false, Nat.add_eq, Nat.zero_add, Nat.add_zero, not_true_eq_false, not_false_eq_true, kM, kM2, x63, s4, r4, c5, k100, v_no]
      · unfold f_X_copy v_Sh_isMan v_Sh_isRow
        simp (disch := omega) only [k0, k1, k2, k3, k4, k5, k6, k7, k8, k9, k10, k12, k20, k30, k31, k40, k99, k160, ite_self, nI_add, nI_leI, nI_ltI, nI_eq, nI_clamp, nI_sub', nI_mul, vpb_n, eq_self, implies_true, grd_t, grd_i, if_pos, if_neg, bI_k, bV_k, bx0, bx1, mh0, mh1, rd_s, rd_o, rd_j, rd_2k, rdL_1k, ↓reduceIte, Bool.false_eq_true, Bool.true_eq_false, Nat.add_eq, Nat.zero_add, Nat.add_zero, not_true_eq_false, not_false_eq_true, kX, kX2, s3, r3, k100, v_ref]
        refine copy_refX h (by omega) (by omega) ?_
        unfold f_M_copy v_M_isRow
        simp (disch := omega) only [k0, k1, k2, k3, k4, k5, k6, k7, k8, k9, k10, k12, k20, k30, k31, k40, k99, k160, ite_self, nI_add, nI_leI, nI_ltI, nI_eq, nI_clamp, nI_sub', nI_mul, vpb_n, eq_self, implies_true, grd_t, grd_i, if_pos, if_neg, bI_k, bV_k, bx0, bx1, mh0, mh1, rd_s, rd_o, rd_j, rd_2k, rdL_1k, ↓reduceIte, Bool.false_eq_true, Bool.true_eq_false, Nat.add_eq, Nat.zero_add, Nat.add_zero, not_true_eq_false, not_false_eq_true, kM, kM2, x63, s4, r4, k100, v_no]
