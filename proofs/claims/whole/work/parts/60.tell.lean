/-! told rows -/
theorem row_guard {w : MW} {n : Nat} (hn : n ≤ 8) (h : ∀ s, s < 8 → SH w n s) (x : Int32) : (v_X_rowRefusal w x = nI 0 → vpb x 8 = true) ∧ (nI 0 ≤ v_M_noRow w x → vpb x 8 = true) := by
  rcases row_cases hn h x with ⟨c, h1, h2, h3, h4⟩ | ⟨s, t, len, hs, rfl, _⟩
  · obtain ⟨n1, n2, n3, n4, n5⟩ := neg_lt0 h1 (by omega)
    exact ⟨fun q => absurd (h3.symm.trans q) n3, fun q => absurd (by rw [h4] at q; exact q) n2⟩
  · exact ⟨fun _ => vpb_n hs (by omega), fun _ => vpb_n hs (by omega)⟩
theorem noRow_c {w w' : MW} (e : w'.1 63 = w.1 63) (x : Int32) : v_M_noRow w' x = v_M_noRow w x := by
  unfold v_M_noRow v_M_isRow
  rw [e]
  rfl
theorem noSay_c {w w' : MW} (e : w'.1 63 = w.1 63) (e2 : w'.1 64 = w.1 64) (x y : Int32) : v_M_noSaying w' x y = v_M_noSaying w x y := by
  unfold v_M_noSaying
  rw [noRow_c e, e2]
theorem tell_cases {w : MW} {n : Nat} (hn : n ≤ 8) (h : ∀ s, s < 8 → SH w n s) (x1 x2 : Int32) :
    (∃ c, 1 ≤ c ∧ c ≤ 5 ∧ v_X_tellRefusal w x1 x2 = -nI c ∧ v_M_noSaying w x1 x2 = -nI c) ∨
    (∃ s t len m, s < 8 ∧ x1 = nI s ∧ RW w s t len ∧ m ≤ len ∧ x2 = nI m ∧ v_X_tellRefusal w x1 x2 = nI 0 ∧ v_M_noSaying w x1 x2 = if m ≤ 30 then nI 0 else -nI 6) := by
  unfold v_X_tellRefusal v_M_noSaying
  rcases row_cases hn h x1 with ⟨c, h1, h2, h3, h4⟩ | ⟨s, t, len, hs, rfl, hr, h3, h4⟩
  · obtain ⟨n1, n2, n3, n4, n5⟩ := neg_lt0 h1 (by omega)
    refine .inl ⟨c, h1, by omega, ?_, ?_⟩
    · simp (disch := omega) only [k0, k1, k2, k3, k4, k5, k6, k7, k8, k9, k10, k12, k20, k30, k31, k40, k99, k160, ite_self, nI_add, nI_leI, nI_ltI, nI_eq, nI_clamp, nI_sub', nI_mul, vpb_n, eq_self, implies_true, grd_t, grd_i, if_pos, if_neg, bI_k, bV_k, bx0, bx1, mh0, mh1, rd_s, rd_o, rd_j, rd_2k, rdL_1k, ↓reduceIte, Bool.false_eq_true, Bool.true_eq_false, Nat.add_eq, Nat.zero_add, Nat.add_zero, not_true_eq_false, not_false_eq_true, h3, n3]
    · simp (disch := omega) only [k0, k1, k2, k3, k4, k5, k6, k7, k8, k9, k10, k12, k20, k30, k31, k40, k99, k160, ite_self, nI_add, nI_leI, nI_ltI, nI_eq, nI_clamp, nI_sub', nI_mul, vpb_n, eq_self, implies_true, grd_t, grd_i, if_pos, if_neg, bI_k, bV_k, bx0, bx1, mh0, mh1, rd_s, rd_o, rd_j, rd_2k, rdL_1k, ↓reduceIte, Bool.false_eq_true, Bool.true_eq_false, Nat.add_eq, Nat.zero_add, Nat.add_zero, not_true_eq_false, not_false_eq_true, h4, n2]
  · have hr' := hr
    obtain ⟨r1, r2, r3, r4, r5, r6, r7⟩ := hr
    by_cases q : nI 0 ≤ x2
    · obtain ⟨m, hm, rfl⟩ : ∃ m, m < 2 ^ 31 ∧ x2 = nI m := nI_of (Int32.not_lt.mpr q)
      by_cases q2 : m ≤ len
      · refine .inr ⟨s, t, len, m, hs, rfl, hr', q2, rfl, ?_, ?_⟩
        · simp (disch := omega) only [k0, k1, k2, k3, k4, k5, k6, k7, k8, k9, k10, k12, k20, k30, k31, k40, k99, k160, ite_self, nI_add, nI_leI, nI_ltI, nI_eq, nI_clamp, nI_sub', nI_mul, vpb_n, eq_self, implies_true, grd_t, grd_i, if_pos, if_neg, bI_k, bV_k, bx0, bx1, mh0, mh1, rd_s, rd_o, rd_j, rd_2k, rdL_1k, ↓reduceIte, Bool.false_eq_true, Bool.true_eq_false, Nat.add_eq, Nat.zero_add, Nat.add_zero, not_true_eq_false, not_false_eq_true, h3, r5]
        · simp (disch := omega) only [k0, k1, k2, k3, k4, k5, k6, k7, k8, k9, k10, k12, k20, k30, k31, k40, k99, k160, ite_self, nI_add, nI_leI, nI_ltI, nI_eq, nI_clamp, nI_sub', nI_mul, vpb_n, eq_self, implies_true, grd_t, grd_i, if_pos, if_neg, bI_k, bV_k, bx0, bx1, mh0, mh1, rd_s, rd_o, rd_j, rd_2k, rdL_1k, ↓reduceIte, Bool.false_eq_true, Bool.true_eq_false, Nat.add_eq, Nat.zero_add, Nat.add_zero, not_true_eq_false, not_false_eq_true, h4, r6]
      · refine .inl ⟨5, by omega, by omega, ?_, ?_⟩
        · simp (disch := omega) only [k0, k1, k2, k3, k4, k5, k6, k7, k8, k9, k10, k12, k20, k30, k31, k40, k99, k160, ite_self, nI_add, nI_leI, nI_ltI, nI_eq, nI_clamp, nI_sub', nI_mul, vpb_n, eq_self, implies_true, grd_t, grd_i, if_pos, if_neg, bI_k, bV_k, bx0, bx1, mh0, mh1, rd_s, rd_o, rd_j, rd_2k, rdL_1k, ↓reduceIte, Bool.false_eq_true, Bool.true_eq_false, Nat.add_eq, Nat.zero_add, Nat.add_zero, not_true_eq_false, not_false_eq_true, h3, r5]
        · simp (disch := omega) only [k0, k1, k2, k3, k4, k5, k6, k7, k8, k9, k10, k12, k20, k30, k31, k40, k99, k160, ite_self, nI_add, nI_leI, nI_ltI, nI_eq, nI_clamp, nI_sub', nI_mul, vpb_n, eq_self, implies_true, grd_t, grd_i, if_pos, if_neg, bI_k, bV_k, bx0, bx1, mh0, mh1, rd_s, rd_o, rd_j, rd_2k, rdL_1k, ↓reduceIte, Bool.false_eq_true, Bool.true_eq_false, Nat.add_eq, Nat.zero_add, Nat.add_zero, not_true_eq_false, not_false_eq_true, h4, r6]
    · refine .inl ⟨4, by omega, by omega, ?_, ?_⟩
      · simp (disch := omega) only [k0, k1, k2, k3, k4, k5, k6, k7, k8, k9, k10, k12, k20, k30, k31, k40, k99, k160, ite_self, nI_add, nI_leI, nI_ltI, nI_eq, nI_clamp, nI_sub', nI_mul, vpb_n, eq_self, implies_true, grd_t, grd_i, if_pos, if_neg, bI_k, bV_k, bx0, bx1, mh0, mh1, rd_s, rd_o, rd_j, rd_2k, rdL_1k, ↓reduceIte, Bool.false_eq_true, Bool.true_eq_false, Nat.add_eq, Nat.zero_add, Nat.add_zero, not_true_eq_false, not_false_eq_true, h3, q]
      · simp (disch := omega) only [k0, k1, k2, k3, k4, k5, k6, k7, k8, k9, k10, k12, k20, k30, k31, k40, k99, k160, ite_self, nI_add, nI_leI, nI_ltI, nI_eq, nI_clamp, nI_sub', nI_mul, vpb_n, eq_self, implies_true, grd_t, grd_i, if_pos, if_neg, bI_k, bV_k, bx0, bx1, mh0, mh1, rd_s, rd_o, rd_j, rd_2k, rdL_1k, ↓reduceIte, Bool.false_eq_true, Bool.true_eq_false, Nat.add_eq, Nat.zero_add, Nat.add_zero, not_true_eq_false, not_false_eq_true, h4, q]
def fwV (E : Nat → Int32) : Nat → Nat → Int32
  | 0, _ => -nI 1
  | m + 1, i => if E i < nI 0 ∨ ¬ E i < nI 40 then nI i else fwV E m (i + 1)
theorem fwV_s {E : Nat → Int32} {n i : Nat} (h : i < n) : fwV E (n - i) i = if E i < nI 0 ∨ ¬ E i < nI 40 then nI i else fwV E (n - (i + 1)) (i + 1) := by
  rw [show n - i = (n - (i + 1)) + 1 by omega]
  rfl
theorem fwV_ok0 {E : Nat → Int32} : ∀ (m i : Nat), i + m < 1000 → fwV E m i = -nI 1 → ∀ p, i ≤ p → p < i + m → ∃ v, v < 40 ∧ E p = nI v := by
  intro m
  induction m with
  | zero => intro i _ h p h1 h2; omega
  | succ m ih =>
    intro i hi h p h1 h2
    rw [fwV] at h
    by_cases c : E i < nI 0 ∨ ¬ E i < nI 40
    · rw [if_pos c] at h
      exact absurd h (nI_ne_m1 (by omega))
    · rw [if_neg c] at h
      by_cases e : p = i
      · subst e
        have c1 : ¬ E p < 0 := fun q => c (.inl q)
        obtain ⟨v, hv, ev⟩ := nI_of c1
        rw [ev] at c
        refine ⟨v, ?_, ev⟩
        have c2 : nI v < nI 40 := Decidable.byContradiction fun q => c (.inr q)
        exact (nI_ltI hv (by omega)).mp c2
      · exact ih (i + 1) (by omega) h p (by omega) (by omega)
theorem fwV_ok {E : Nat → Int32} {m : Nat} (h : fwV E m 0 = -nI 1) (hm : m < 1000 := by omega) : OKS m E := fun p hp => fwV_ok0 m 0 (by omega) h p (by omega) (by omega)
theorem asInt_e {w : MW} {a len i : Nat} {E : Nat → Int32} (e : w.1 a 1 = nI len) (hl : len ≤ 160) (hE : (w.2.1 (a + 1) i).toInt32 = E i) (hi : i < len) : v_Sh_asInt w a (nI i) = E i := by
  unfold v_Sh_asInt
  have h0 : ¬ nI i < nI 0 := nI_pos (by omega)
  simp (disch := omega) only [k0, k1, k2, k3, k4, k5, k6, k7, k8, k9, k10, k12, k20, k30, k31, k40, k99, k160, ite_self, nI_add, nI_leI, nI_ltI, nI_eq, nI_clamp, nI_sub', nI_mul, vpb_n, eq_self, implies_true, grd_t, grd_i, if_pos, if_neg, bI_k, bV_k, bx0, bx1, mh0, mh1, rd_s, rd_o, rd_j, rd_2k, rdL_1k, ↓reduceIte, Bool.false_eq_true, Bool.true_eq_false, Nat.add_eq, Nat.zero_add, Nat.add_zero, not_true_eq_false, not_false_eq_true, e, hE]
theorem X_fw {w : MW} {a len m : Nat} {E : Nat → Int32} (e : w.1 a 1 = nI len) (hl : len ≤ 160) (hE : ∀ i, i < len → (w.2.1 (a + 1) i).toInt32 = E i) (hm : m ≤ len) : f_Sh_firstWrong w a (nI m) = some (some (.int (fwV E m 0)), w) := by
  unfold f_Sh_firstWrong
  have h : EI (f_Sh_firstWrong_2 a FU w (nI m) (nI 0)) (fun v w' => v = fwV E m 0 ∧ w' = w) := by
    refine lp (σ := Unit) (F := fun q _ i => f_Sh_firstWrong_2 a q w (nI m) (nI i)) (fun _ i => fwV E (m - i) i = fwV E m 0) m 0 () (by rw [Nat.sub_zero]) (by omega) (by omega) ?_ ?_
    · intro q _ hi
      show Ev (f_Sh_firstWrong_2 a (q + 1) w (nI m) (nI m)) _
      rw [f_Sh_firstWrong_2]
      simp (disch := omega) only [k0, k1, k2, k3, k4, k5, k6, k7, k8, k9, k10, k12, k20, k30, k31, k40, k99, k160, ite_self, nI_add, nI_leI, nI_ltI, nI_eq, nI_clamp, nI_sub', nI_mul, vpb_n, eq_self, implies_true, grd_t, grd_i, if_pos, if_neg, bI_k, bV_k, bx0, bx1, mh0, mh1, rd_s, rd_o, rd_j, rd_2k, rdL_1k, ↓reduceIte, Bool.false_eq_true, Bool.true_eq_false, Nat.add_eq, Nat.zero_add, Nat.add_zero, not_true_eq_false, not_false_eq_true]
      rw [Nat.sub_self] at hi
      exact Ev.i ⟨hi, rfl⟩
    · intro q _ i _ hi hinv kk
      rw [fwV_s hi] at hinv
      show Ev (f_Sh_firstWrong_2 a (q + 1) w (nI m) (nI i)) _
      rw [f_Sh_firstWrong_2, asInt_e e hl (hE i (by omega)) (by omega)]
      have k := kk ()
      by_cases c1 : E i < nI 0
      · rw [if_pos (.inl c1)] at hinv
        simp (disch := omega) only [k0, k1, k2, k3, k4, k5, k6, k7, k8, k9, k10, k12, k20, k30, k31, k40, k99, k160, ite_self, nI_add, nI_leI, nI_ltI, nI_eq, nI_clamp, nI_sub', nI_mul, vpb_n, eq_self, implies_true, grd_t, grd_i, if_pos, if_neg, bI_k, bV_k, bx0, bx1, mh0, mh1, rd_s, rd_o, rd_j, rd_2k, rdL_1k, ↓reduceIte, Bool.false_eq_true, Bool.true_eq_false, Nat.add_eq, Nat.zero_add, Nat.add_zero, not_true_eq_false, not_false_eq_true, e, c1]
        exact Ev.i ⟨hinv, rfl⟩
      · by_cases c2 : E i < nI 40
        · rw [if_neg (fun q => q.elim c1 (fun q => q c2))] at hinv
          simp (disch := omega) only [k0, k1, k2, k3, k4, k5, k6, k7, k8, k9, k10, k12, k20, k30, k31, k40, k99, k160, ite_self, nI_add, nI_leI, nI_ltI, nI_eq, nI_clamp, nI_sub', nI_mul, vpb_n, eq_self, implies_true, grd_t, grd_i, if_pos, if_neg, bI_k, bV_k, bx0, bx1, mh0, mh1, rd_s, rd_o, rd_j, rd_2k, rdL_1k, ↓reduceIte, Bool.false_eq_true, Bool.true_eq_false, Nat.add_eq, Nat.zero_add, Nat.add_zero, not_true_eq_false, not_false_eq_true, e, c1, c2]
          exact k hinv
        · rw [if_pos (.inr c2)] at hinv
          simp (disch := omega) only [k0, k1, k2, k3, k4, k5, k6, k7, k8, k9, k10, k12, k20, k30, k31, k40, k99, k160, ite_self, nI_add, nI_leI, nI_ltI, nI_eq, nI_clamp, nI_sub', nI_mul, vpb_n, eq_self, implies_true, grd_t, grd_i, if_pos, if_neg, bI_k, bV_k, bx0, bx1, mh0, mh1, rd_s, rd_o, rd_j, rd_2k, rdL_1k, ↓reduceIte, Bool.false_eq_true, Bool.true_eq_false, Nat.add_eq, Nat.zero_add, Nat.add_zero, not_true_eq_false, not_false_eq_true, e, c1, c2]
          exact Ev.i ⟨hinv, rfl⟩
  obtain ⟨r, w', e, v, rfl, rfl, rfl⟩ := h
  exact e
theorem k39 : (39 : Int32) = nI 39 := by decide
theorem gt39 {x : Int32} : nI 39 < x ↔ ¬ x < nI 40 := by
  rw [Int32.lt_iff_toInt_lt, Int32.lt_iff_toInt_lt, nI_toInt (by omega), nI_toInt (by omega)]
  omega
theorem told_e {w : MW} {s i : Nat} (hs : s < 8) (hi : i < 160) : v_M_told w (nI s) (nI i) = (w.2.1 65 (160 * s + i)).toInt32 := by
  unfold v_M_told
  simp (disch := omega) only [k0, k1, k2, k3, k4, k5, k6, k7, k8, k9, k10, k12, k20, k30, k31, k40, k99, k160, ite_self, nI_add, nI_leI, nI_ltI, nI_eq, nI_clamp, nI_sub', nI_mul, vpb_n, eq_self, implies_true, grd_t, grd_i, if_pos, if_neg, bI_k, bV_k, bx0, bx1, mh0, mh1, rd_s, rd_o, rd_j, rd_2k, rdL_1k, ↓reduceIte, Bool.false_eq_true, Bool.true_eq_false, Nat.add_eq, Nat.zero_add, Nat.add_zero, not_true_eq_false, not_false_eq_true]
theorem M_fw {w : MW} {s m : Nat} {E : Nat → Int32} (hs : s < 8) (hE : ∀ i, i < m → (w.2.1 65 (160 * s + i)).toInt32 = E i) (hm : m ≤ 160) : f_M_wrong w (nI s) (nI m) = some (some (.int (fwV E m 0)), w) := by
  unfold f_M_wrong
  have h : EI (f_M_wrong_2 FU w (nI s) (nI m) (nI 0)) (fun v w' => v = fwV E m 0 ∧ w' = w) := by
    refine lp (σ := Unit) (F := fun q _ i => f_M_wrong_2 q w (nI s) (nI m) (nI i)) (fun _ i => fwV E (m - i) i = fwV E m 0) m 0 () (by rw [Nat.sub_zero]) (by omega) (by omega) ?_ ?_
    · intro q _ hi
      show Ev (f_M_wrong_2 (q + 1) w (nI s) (nI m) (nI m)) _
      rw [f_M_wrong_2]
      simp (disch := omega) only [k0, k1, k2, k3, k4, k5, k6, k7, k8, k9, k10, k12, k20, k30, k31, k40, k99, k160, ite_self, nI_add, nI_leI, nI_ltI, nI_eq, nI_clamp, nI_sub', nI_mul, vpb_n, eq_self, implies_true, grd_t, grd_i, if_pos, if_neg, bI_k, bV_k, bx0, bx1, mh0, mh1, rd_s, rd_o, rd_j, rd_2k, rdL_1k, ↓reduceIte, Bool.false_eq_true, Bool.true_eq_false, Nat.add_eq, Nat.zero_add, Nat.add_zero, not_true_eq_false, not_false_eq_true]
      rw [Nat.sub_self] at hi
      exact Ev.i ⟨hi, rfl⟩
    · intro q _ i _ hi hinv kk
      rw [fwV_s hi] at hinv
      show Ev (f_M_wrong_2 (q + 1) w (nI s) (nI m) (nI i)) _
      rw [f_M_wrong_2, told_e hs (by omega), hE i hi]
      unfold v_M_isWord v_M_within
      have k := kk ()
      by_cases c1 : E i < nI 0
      · rw [if_pos (.inl c1)] at hinv
        simp (disch := omega) only [k0, k1, k2, k3, k4, k5, k6, k7, k8, k9, k10, k12, k20, k30, k31, k40, k99, k160, ite_self, nI_add, nI_leI, nI_ltI, nI_eq, nI_clamp, nI_sub', nI_mul, vpb_n, eq_self, implies_true, grd_t, grd_i, if_pos, if_neg, bI_k, bV_k, bx0, bx1, mh0, mh1, rd_s, rd_o, rd_j, rd_2k, rdL_1k, ↓reduceIte, Bool.false_eq_true, Bool.true_eq_false, Nat.add_eq, Nat.zero_add, Nat.add_zero, not_true_eq_false, not_false_eq_true, c1]
        exact Ev.i ⟨hinv, rfl⟩
      · by_cases c2 : E i < nI 40
        · rw [if_neg (fun q => q.elim c1 (fun q => q c2))] at hinv
          have c3 : ¬ nI 39 < E i := fun q => gt39.mp q c2
          simp (disch := omega) only [k0, k1, k2, k3, k4, k5, k6, k7, k8, k9, k10, k12, k20, k30, k31, k40, k99, k160, ite_self, nI_add, nI_leI, nI_ltI, nI_eq, nI_clamp, nI_sub', nI_mul, vpb_n, eq_self, implies_true, grd_t, grd_i, if_pos, if_neg, bI_k, bV_k, bx0, bx1, mh0, mh1, rd_s, rd_o, rd_j, rd_2k, rdL_1k, ↓reduceIte, Bool.false_eq_true, Bool.true_eq_false, Nat.add_eq, Nat.zero_add, Nat.add_zero, not_true_eq_false, not_false_eq_true, c1, c3, k39]
          exact k hinv
        · rw [if_pos (.inr c2)] at hinv
          have c3 : nI 39 < E i := gt39.mpr c2
          simp (disch := omega) only [k0, k1, k2, k3, k4, k5, k6, k7, k8, k9, k10, k12, k20, k30, k31, k40, k99, k160, ite_self, nI_add, nI_leI, nI_ltI, nI_eq, nI_clamp, nI_sub', nI_mul, vpb_n, eq_self, implies_true, grd_t, grd_i, if_pos, if_neg, bI_k, bV_k, bx0, bx1, mh0, mh1, rd_s, rd_o, rd_j, rd_2k, rdL_1k, ↓reduceIte, Bool.false_eq_true, Bool.true_eq_false, Nat.add_eq, Nat.zero_add, Nat.add_zero, not_true_eq_false, not_false_eq_true, c1, c3, k39]
          exact Ev.i ⟨hinv, rfl⟩
  obtain ⟨r, w', e, v, rfl, rfl, rfl⟩ := h
  exact e
theorem neg_ne0 {c : Nat} (h1 : 1 ≤ c) (h2 : c ≤ 7) : ¬ -nI c = nI 0 ∧ ¬ nI 0 ≤ -nI c := ⟨(neg_lt0 h1 (by omega)).2.2.1, (neg_lt0 h1 (by omega)).2.1⟩
theorem sim_judge (x1 x2 : Int32) : SIM (fun w => f_X_judge w x1 x2) (fun w => f_M_judge w x1 x2) := by
  intro sc N w h
  have h0 := h
  obtain ⟨⟨n, L, K, A, F, M, S, g1, g2⟩, g3, g4, g5, g6⟩ := h0
  have hn := g1.2.2.1.1
  obtain ⟨gx, gm⟩ := row_guard hn g2 x1
  have gxx : (v_X_rowRefusal w x1 = nI 0 → nI 0 ≤ x2 → vpb x1 8 = true) := fun q _ => gx q
  have gmm : (nI 0 ≤ v_M_noRow w x1 → nI 0 ≤ x2 → vpb x1 8 = true) := fun q _ => gm q
  show EI (f_X_judge w x1 x2) _
  unfold f_X_judge
  refine Ev.grd gxx ?_
  have rf : ∀ c, 1 ≤ c → c ≤ 7 → v_M_noSaying w x1 x2 = -nI c → EI (f_M_judge (u_X_refuse w (-nI c)) x1 x2) (fun v' w2 => v' = -nI c - nI 10 ∧ Inv sc N w2) := by
    intro c h1 h2 e
    unfold f_M_judge
    have e1 := noRow_c (w := w) (w' := u_X_refuse w (-nI c)) (xr_o (by omega)) x1
    have e2 := noSay_c (w := w) (w' := u_X_refuse w (-nI c)) (xr_o (by omega)) (xr_o (by omega)) x1 x2
    rw [e] at e2
    refine Ev.grd (by rw [e1]; exact gmm) ?_
    simp (disch := omega) only [k0, k1, k2, k3, k4, k5, k6, k7, k8, k9, k10, k12, k20, k30, k31, k40, k99, k160, ite_self, nI_add, nI_leI, nI_ltI, nI_eq, nI_clamp, nI_sub', nI_mul, vpb_n, eq_self, implies_true, grd_t, grd_i, if_pos, if_neg, bI_k, bV_k, bx0, bx1, mh0, mh1, rd_s, rd_o, rd_j, rd_2k, rdL_1k, ↓reduceIte, Bool.false_eq_true, Bool.true_eq_false, Nat.add_eq, Nat.zero_add, Nat.add_zero, not_true_eq_false, not_false_eq_true, e2, (neg_ne0 h1 h2).2, u_no10, v_no10]
    exact Ev.i ⟨rfl, inv_ref h h1 h2⟩
  rcases tell_cases hn g2 x1 x2 with ⟨c, h1, h2, h3, h4⟩ | ⟨s, t, len, m, hs, rfl, hr, hm, rfl, h3, h4⟩
  · simp (disch := omega) only [k0, k1, k2, k3, k4, k5, k6, k7, k8, k9, k10, k12, k20, k30, k31, k40, k99, k160, ite_self, nI_add, nI_leI, nI_ltI, nI_eq, nI_clamp, nI_sub', nI_mul, vpb_n, eq_self, implies_true, grd_t, grd_i, if_pos, if_neg, bI_k, bV_k, bx0, bx1, mh0, mh1, rd_s, rd_o, rd_j, rd_2k, rdL_1k, ↓reduceIte, Bool.false_eq_true, Bool.true_eq_false, Nat.add_eq, Nat.zero_add, Nat.add_zero, not_true_eq_false, not_false_eq_true, h3, (neg_ne0 h1 (by omega : c ≤ 7)).1, u_refF, v_refF]
    exact Ev.i (rf c h1 (by omega) h4)
  obtain ⟨r1, r2, r3, r4, r5, r6, r7⟩ := hr
  by_cases q : m ≤ 30
  · rw [if_pos q] at h4
    simp (disch := omega) only [k0, k1, k2, k3, k4, k5, k6, k7, k8, k9, k10, k12, k20, k30, k31, k40, k99, k160, ite_self, nI_add, nI_leI, nI_ltI, nI_eq, nI_clamp, nI_sub', nI_mul, vpb_n, eq_self, implies_true, grd_t, grd_i, if_pos, if_neg, bI_k, bV_k, bx0, bx1, mh0, mh1, rd_s, rd_o, rd_j, rd_2k, rdL_1k, ↓reduceIte, Bool.false_eq_true, Bool.true_eq_false, Nat.add_eq, Nat.zero_add, Nat.add_zero, not_true_eq_false, not_false_eq_true, h3]
    rw [X_fw (E := fun i => (w.2.1 (35 + 2 * s + 1) i).toInt32) r5 (by omega) (fun i _ => rfl) hm]
    simp (disch := omega) only [k0, k1, k2, k3, k4, k5, k6, k7, k8, k9, k10, k12, k20, k30, k31, k40, k99, k160, ite_self, nI_add, nI_leI, nI_ltI, nI_eq, nI_clamp, nI_sub', nI_mul, vpb_n, eq_self, implies_true, grd_t, grd_i, if_pos, if_neg, bI_k, bV_k, bx0, bx1, mh0, mh1, rd_s, rd_o, rd_j, rd_2k, rdL_1k, ↓reduceIte, Bool.false_eq_true, Bool.true_eq_false, Nat.add_eq, Nat.zero_add, Nat.add_zero, not_true_eq_false, not_false_eq_true]
    refine Ev.i ?_
    show EI (f_M_judge w (nI s) (nI m)) _
    unfold f_M_judge
    refine Ev.grd gmm ?_
    simp (disch := omega) only [k0, k1, k2, k3, k4, k5, k6, k7, k8, k9, k10, k12, k20, k30, k31, k40, k99, k160, ite_self, nI_add, nI_leI, nI_ltI, nI_eq, nI_clamp, nI_sub', nI_mul, vpb_n, eq_self, implies_true, grd_t, grd_i, if_pos, if_neg, bI_k, bV_k, bx0, bx1, mh0, mh1, rd_s, rd_o, rd_j, rd_2k, rdL_1k, ↓reduceIte, Bool.false_eq_true, Bool.true_eq_false, Nat.add_eq, Nat.zero_add, Nat.add_zero, not_true_eq_false, not_false_eq_true, h4]
    rw [M_fw (E := fun i => (w.2.1 (35 + 2 * s + 1) i).toInt32) hs (fun i hi => by rw [r7 i (by omega)]) (by omega)]
    simp (disch := omega) only [k0, k1, k2, k3, k4, k5, k6, k7, k8, k9, k10, k12, k20, k30, k31, k40, k99, k160, ite_self, nI_add, nI_leI, nI_ltI, nI_eq, nI_clamp, nI_sub', nI_mul, vpb_n, eq_self, implies_true, grd_t, grd_i, if_pos, if_neg, bI_k, bV_k, bx0, bx1, mh0, mh1, rd_s, rd_o, rd_j, rd_2k, rdL_1k, ↓reduceIte, Bool.false_eq_true, Bool.true_eq_false, Nat.add_eq, Nat.zero_add, Nat.add_zero, not_true_eq_false, not_false_eq_true]
    exact Ev.i ⟨rfl, h⟩
  · rw [if_neg q] at h4
    simp (disch := omega) only [k0, k1, k2, k3, k4, k5, k6, k7, k8, k9, k10, k12, k20, k30, k31, k40, k99, k160, ite_self, nI_add, nI_leI, nI_ltI, nI_eq, nI_clamp, nI_sub', nI_mul, vpb_n, eq_self, implies_true, grd_t, grd_i, if_pos, if_neg, bI_k, bV_k, bx0, bx1, mh0, mh1, rd_s, rd_o, rd_j, rd_2k, rdL_1k, ↓reduceIte, Bool.false_eq_true, Bool.true_eq_false, Nat.add_eq, Nat.zero_add, Nat.add_zero, not_true_eq_false, not_false_eq_true, h3, u_refF, v_refF]
    exact Ev.i (rf 6 (by omega) (by omega) h4)
theorem X_sayLoop {w : MW} {n L s len m : Nat} {K A F : Nat → Nat} {M S B H E : Nat → Int32} (rx : RX 1 w n L K A F M S) (xb : XB w n B H) (hn : n ≤ 8) (hs : s < 8) (hm : m ≤ 30) (hml : m ≤ len) (hl : len ≤ 160) (e : w.1 (35 + 2 * s) 1 = nI len) (hE : ∀ i, i < len → (w.2.1 (35 + 2 * s + 1) i).toInt32 = E i) :
    EI (f_X_say_58 FU (u_Ct_hushWords w 1) (nI m) (35 + 2 * s) (nI 0)) (fun v w' => v = nI m ∧ RX 1 w' n m K A F M E ∧ XB w' n B H ∧ w'.1 1 4 = w.1 1 4 ∧ GX w w') := by
  obtain ⟨h1, h2, h3, h4⟩ := rx
  unfold u_Ct_hushWords
  refine lp (σ := MW) (F := fun q w' i => f_X_say_58 q w' (nI m) (35 + 2 * s) (nI i)) (fun w' i => w'.1 1 1 = nI n ∧ w'.1 1 3 = nI i ∧ w'.1 1 4 = w.1 1 4 ∧ (∀ a, 3 ≤ a → a ≤ 10 → w'.1 a = w.1 a) ∧ (∀ p, p < i → w'.1 (1 + 10) p = E p) ∧ GX w w') m 0 _ ⟨?_, ?_, ?_, ?_, ?_, ?_⟩ (by omega) (by omega) ?_ ?_
  · rw [rd_j (by omega)]
    exact h1
  · rw [rd_s]
    rfl
  · rw [rd_j (by omega)]
  · intro a q1 q2
    rw [rd_o (by omega)]
  · intro p hp
    omega
  · exact (GX.rfl w).set (by omega)
  · intro q w' hi
    obtain ⟨i1, i2, i3, i4, i5, i6⟩ := hi
    show Ev (f_X_say_58 (q + 1) w' (nI m) (35 + 2 * s) (nI m)) _
    rw [f_X_say_58]
    simp (disch := omega) only [k0, k1, k2, k3, k4, k5, k6, k7, k8, k9, k10, k12, k20, k30, k31, k40, k99, k160, ite_self, nI_add, nI_leI, nI_ltI, nI_eq, nI_clamp, nI_sub', nI_mul, vpb_n, eq_self, implies_true, grd_t, grd_i, if_pos, if_neg, bI_k, bV_k, bx0, bx1, mh0, mh1, rd_s, rd_o, rd_j, rd_2k, rdL_1k, ↓reduceIte, Bool.false_eq_true, Bool.true_eq_false, Nat.add_eq, Nat.zero_add, Nat.add_zero, not_true_eq_false, not_false_eq_true]
    refine Ev.i ⟨rfl, ⟨i1, i2, fun i hi => ?_, i5⟩, fun i hi => ?_, i3, i6⟩
    · rw [i4 (1 + 2 + i) (by omega) (by omega)]
      exact h3 i hi
    · rw [i4 (1 + 2 + i) (by omega) (by omega)]
      exact xb i hi
  · intro q w' i _ hi hinv kk
    obtain ⟨i1, i2, i3, i4, i5, i6⟩ := hinv
    have e' : w'.1 (35 + 2 * s) 1 = nI len := by
      rw [i6.1 (35 + 2 * s) 1 (by unfold Sc; omega) (by omega)]
      exact e
    show Ev (f_X_say_58 (q + 1) w' (nI m) (35 + 2 * s) (nI i)) _
    rw [f_X_say_58, asInt_e (E := E) e' hl (by rw [i6.2.2]; exact hE i (by omega)) (by omega)]
    unfold u_Ct_addWord
    simp (disch := omega) only [k0, k1, k2, k3, k4, k5, k6, k7, k8, k9, k10, k12, k20, k30, k31, k40, k99, k160, ite_self, nI_add, nI_leI, nI_ltI, nI_eq, nI_clamp, nI_sub', nI_mul, vpb_n, eq_self, implies_true, grd_t, grd_i, if_pos, if_neg, bI_k, bV_k, bx0, bx1, mh0, mh1, rd_s, rd_o, rd_j, rd_2k, rdL_1k, ↓reduceIte, Bool.false_eq_true, Bool.true_eq_false, Nat.add_eq, Nat.zero_add, Nat.add_zero, not_true_eq_false, not_false_eq_true, i2]
    refine kk _ ⟨?_, ?_, ?_, ?_, ?_, ?_⟩
    · rw [rd_j (by omega), rd_o (by omega)]
      exact i1
    · rw [rd_s]
    · rw [rd_j (by omega), rd_o (by omega)]
      exact i3
    · intro a q1 q2
      rw [rd_o (by omega), rd_o (by omega)]
      exact i4 a q1 q2
    · intro p hp
      rw [rd_o (by omega)]
      by_cases q : p = i
      · subst q
        rw [rd_s]
      · rw [rd_j q]
        exact i5 p (by omega)
    · exact (i6.set (by omega)).set (by omega)
theorem M_sayLoop {w : MW} {n L s m : Nat} {K A F : Nat → Nat} {M S B H E : Nat → Int32} (rm : RM w n L K A F M S) (mb : MB w n B H) (hs : s < 8) (hm : m ≤ 30) (hE : ∀ i, i < m → (w.2.1 65 (160 * s + i)).toInt32 = E i) :
    EI (f_M_say_42 FU (setI w 62 10 (nI m)) (nI s) (nI m) (nI 0)) (fun v w' => v = nI m ∧ RM w' n m K A F M E ∧ MB w' n B H ∧ w'.1 62 12 = w.1 62 12 ∧ GM w w') := by
  obtain ⟨h1, h2, h3, h4⟩ := rm
  refine lp (σ := MW) (F := fun q w' i => f_M_say_42 q w' (nI s) (nI m) (nI i)) (fun w' i => w'.1 62 3 = nI n ∧ w'.1 62 10 = nI m ∧ w'.1 62 12 = w.1 62 12 ∧ (∀ a, 66 ≤ a → a ≤ 71 → w'.1 a = w.1 a) ∧ (∀ p, p < i → w'.1 72 p = E p) ∧ GM w w') m 0 _ ⟨?_, ?_, ?_, ?_, ?_, ?_⟩ (by omega) (by omega) ?_ ?_
  · rw [rd_j (by omega)]
    exact h1
  · rw [rd_s]
  · rw [rd_j (by omega)]
  · intro a q1 q2
    rw [rd_o (by omega)]
  · intro p hp
    omega
  · exact (GM.rfl w).set (by omega)
  · intro q w' hi
    obtain ⟨i1, i2, i3, i4, i5, i6⟩ := hi
    show Ev (f_M_say_42 (q + 1) w' (nI s) (nI m) (nI m)) _
    rw [f_M_say_42]
    simp (disch := omega) only [k0, k1, k2, k3, k4, k5, k6, k7, k8, k9, k10, k12, k20, k30, k31, k40, k99, k160, ite_self, nI_add, nI_leI, nI_ltI, nI_eq, nI_clamp, nI_sub', nI_mul, vpb_n, eq_self, implies_true, grd_t, grd_i, if_pos, if_neg, bI_k, bV_k, bx0, bx1, mh0, mh1, rd_s, rd_o, rd_j, rd_2k, rdL_1k, ↓reduceIte, Bool.false_eq_true, Bool.true_eq_false, Nat.add_eq, Nat.zero_add, Nat.add_zero, not_true_eq_false, not_false_eq_true]
    refine Ev.i ⟨rfl, ⟨i1, i2, fun i hi => ?_, i5⟩, fun i hi => ?_, i3, i6⟩
    · rw [i4 66 (by omega) (by omega), i4 67 (by omega) (by omega), i4 68 (by omega) (by omega), i4 71 (by omega) (by omega)]
      exact h3 i hi
    · rw [i4 69 (by omega) (by omega), i4 70 (by omega) (by omega)]
      exact mb i hi
  · intro q w' i _ hi hinv kk
    obtain ⟨i1, i2, i3, i4, i5, i6⟩ := hinv
    show Ev (f_M_say_42 (q + 1) w' (nI s) (nI m) (nI i)) _
    rw [f_M_say_42, told_e hs (by omega), show (w'.2.1 65 (160 * s + i)).toInt32 = E i by rw [i6.2.2]; exact hE i hi]
    simp (disch := omega) only [k0, k1, k2, k3, k4, k5, k6, k7, k8, k9, k10, k12, k20, k30, k31, k40, k99, k160, ite_self, nI_add, nI_leI, nI_ltI, nI_eq, nI_clamp, nI_sub', nI_mul, vpb_n, eq_self, implies_true, grd_t, grd_i, if_pos, if_neg, bI_k, bV_k, bx0, bx1, mh0, mh1, rd_s, rd_o, rd_j, rd_2k, rdL_1k, ↓reduceIte, Bool.false_eq_true, Bool.true_eq_false, Nat.add_eq, Nat.zero_add, Nat.add_zero, not_true_eq_false, not_false_eq_true]
    refine kk _ ⟨?_, ?_, ?_, ?_, ?_, ?_⟩
    · rw [rd_o (by omega)]
      exact i1
    · rw [rd_o (by omega)]
      exact i2
    · rw [rd_o (by omega)]
      exact i3
    · intro a q1 q2
      rw [rd_o (by omega)]
      exact i4 a q1 q2
    · intro p hp
      by_cases q : p = i
      · subst q
        rw [rd_s]
      · rw [rd_j q]
        exact i5 p (by omega)
    · exact i6.set (by omega)
theorem sim_say (x1 x2 : Int32) : SIM (fun w => f_X_say w x1 x2) (fun w => f_M_say w x1 x2) := by
  intro sc N w h
  have h0 := h
  obtain ⟨⟨n, L, K, A, F, M, S, g1, g2⟩, g3, g4, g5, g6⟩ := h0
  have hn := g1.2.2.1.1
  have ok := g1.2.2.1
  obtain ⟨gx, gm⟩ := row_guard hn g2 x1
  have gxx : (v_X_rowRefusal w x1 = nI 0 → nI 0 ≤ x2 → vpb x1 8 = true) := fun q _ => gx q
  have gmm : (nI 0 ≤ v_M_noRow w x1 → nI 0 ≤ x2 → vpb x1 8 = true) := fun q _ => gm q
  show EI (f_X_say w x1 x2) _
  unfold f_X_say
  refine Ev.grd gxx ?_
  have rf : ∀ c, 1 ≤ c → c ≤ 7 → v_M_noSaying w x1 x2 = -nI c → EI (f_M_say (u_X_refuse w (-nI c)) x1 x2) (fun v' w2 => v' = -nI c ∧ Inv sc N w2) := by
    intro c h1 h2 e
    unfold f_M_say
    have e1 := noRow_c (w := w) (w' := u_X_refuse w (-nI c)) (xr_o (by omega)) x1
    have e2 := noSay_c (w := w) (w' := u_X_refuse w (-nI c)) (xr_o (by omega)) (xr_o (by omega)) x1 x2
    rw [e] at e2
    refine Ev.grd (by rw [e1]; exact gmm) ?_
    simp (disch := omega) only [k0, k1, k2, k3, k4, k5, k6, k7, k8, k9, k10, k12, k20, k30, k31, k40, k99, k160, ite_self, nI_add, nI_leI, nI_ltI, nI_eq, nI_clamp, nI_sub', nI_mul, vpb_n, eq_self, implies_true, grd_t, grd_i, if_pos, if_neg, bI_k, bV_k, bx0, bx1, mh0, mh1, rd_s, rd_o, rd_j, rd_2k, rdL_1k, ↓reduceIte, Bool.false_eq_true, Bool.true_eq_false, Nat.add_eq, Nat.zero_add, Nat.add_zero, not_true_eq_false, not_false_eq_true, e2, (neg_ne0 h1 h2).2, v_no]
    exact Ev.i ⟨rfl, inv_ref h h1 h2⟩
  rcases tell_cases hn g2 x1 x2 with ⟨c, h1, h2, h3, h4⟩ | ⟨s, t, len, m, hs, rfl, hr, hm, rfl, h3, h4⟩
  · simp (disch := omega) only [k0, k1, k2, k3, k4, k5, k6, k7, k8, k9, k10, k12, k20, k30, k31, k40, k99, k160, ite_self, nI_add, nI_leI, nI_ltI, nI_eq, nI_clamp, nI_sub', nI_mul, vpb_n, eq_self, implies_true, grd_t, grd_i, if_pos, if_neg, bI_k, bV_k, bx0, bx1, mh0, mh1, rd_s, rd_o, rd_j, rd_2k, rdL_1k, ↓reduceIte, Bool.false_eq_true, Bool.true_eq_false, Nat.add_eq, Nat.zero_add, Nat.add_zero, not_true_eq_false, not_false_eq_true, h3, (neg_ne0 h1 (by omega : c ≤ 7)).1, v_ref]
    exact Ev.i (rf c h1 (by omega) h4)
  obtain ⟨r1, r2, r3, r4, r5, r6, r7⟩ := hr
  by_cases q : m ≤ 30
  · rw [if_pos q] at h4
    simp (disch := omega) only [k0, k1, k2, k3, k4, k5, k6, k7, k8, k9, k10, k12, k20, k30, k31, k40, k99, k160, ite_self, nI_add, nI_leI, nI_ltI, nI_eq, nI_clamp, nI_sub', nI_mul, vpb_n, eq_self, implies_true, grd_t, grd_i, if_pos, if_neg, bI_k, bV_k, bx0, bx1, mh0, mh1, rd_s, rd_o, rd_j, rd_2k, rdL_1k, ↓reduceIte, Bool.false_eq_true, Bool.true_eq_false, Nat.add_eq, Nat.zero_add, Nat.add_zero, not_true_eq_false, not_false_eq_true, h3]
    rw [X_fw (E := fun i => (w.2.1 (35 + 2 * s + 1) i).toInt32) r5 (by omega) (fun i _ => rfl) hm]
    simp (disch := omega) only [k0, k1, k2, k3, k4, k5, k6, k7, k8, k9, k10, k12, k20, k30, k31, k40, k99, k160, ite_self, nI_add, nI_leI, nI_ltI, nI_eq, nI_clamp, nI_sub', nI_mul, vpb_n, eq_self, implies_true, grd_t, grd_i, if_pos, if_neg, bI_k, bV_k, bx0, bx1, mh0, mh1, rd_s, rd_o, rd_j, rd_2k, rdL_1k, ↓reduceIte, Bool.false_eq_true, Bool.true_eq_false, Nat.add_eq, Nat.zero_add, Nat.add_zero, not_true_eq_false, not_false_eq_true]
    generalize hE : (fun i => (w.2.1 (35 + 2 * s + 1) i).toInt32) = E
    have hE1 : ∀ i, i < len → (w.2.1 (35 + 2 * s + 1) i).toInt32 = E i := fun i _ => by rw [← hE]
    by_cases hf : fwV E m 0 = -nI 1
    · simp (disch := omega) only [k0, k1, k2, k3, k4, k5, k6, k7, k8, k9, k10, k12, k20, k30, k31, k40, k99, k160, ite_self, nI_add, nI_leI, nI_ltI, nI_eq, nI_clamp, nI_sub', nI_mul, vpb_n, eq_self, implies_true, grd_t, grd_i, if_pos, if_neg, bI_k, bV_k, bx0, bx1, mh0, mh1, rd_s, rd_o, rd_j, rd_2k, rdL_1k, ↓reduceIte, Bool.false_eq_true, Bool.true_eq_false, Nat.add_eq, Nat.zero_add, Nat.add_zero, not_true_eq_false, not_false_eq_true, hf]
      refine EI.mono (X_sayLoop (E := E) g1.1 g1.2.2.2.2.1 hn hs q hm r2 r5 hE1) (fun v w1 h1 => ?_)
      obtain ⟨rfl, rx1, xb1, s1, gx⟩ := h1
      have rm1 := g1.2.1.gx gx
      have mb1 : MB w1 n (w.1 69) (w.1 70) := fun i hi => by rw [gx.2.1 69 (by omega), gx.2.1 70 (by omega)]; exact ⟨rfl, rfl⟩
      have hE2 : ∀ i, i < m → (w1.2.1 65 (160 * s + i)).toInt32 = E i := fun i hi => by rw [gx.2.2, ← r7 i (by omega)]; exact hE1 i (by omega)
      show EI (f_M_say w1 (nI s) (nI m)) _
      unfold f_M_say
      refine Ev.grd (by rw [noRow_c (gx.2.1 63 (by omega))]; exact gmm) ?_
      have e2 := noSay_c (w := w) (w' := w1) (gx.2.1 63 (by omega)) (gx.2.1 64 (by omega)) (nI s) (nI m)
      rw [h4] at e2
      simp (disch := omega) only [k0, k1, k2, k3, k4, k5, k6, k7, k8, k9, k10, k12, k20, k30, k31, k40, k99, k160, ite_self, nI_add, nI_leI, nI_ltI, nI_eq, nI_clamp, nI_sub', nI_mul, vpb_n, eq_self, implies_true, grd_t, grd_i, if_pos, if_neg, bI_k, bV_k, bx0, bx1, mh0, mh1, rd_s, rd_o, rd_j, rd_2k, rdL_1k, ↓reduceIte, Bool.false_eq_true, Bool.true_eq_false, Nat.add_eq, Nat.zero_add, Nat.add_zero, not_true_eq_false, not_false_eq_true, e2]
      rw [M_fw (E := E) hs hE2 (by omega)]
      simp (disch := omega) only [k0, k1, k2, k3, k4, k5, k6, k7, k8, k9, k10, k12, k20, k30, k31, k40, k99, k160, ite_self, nI_add, nI_leI, nI_ltI, nI_eq, nI_clamp, nI_sub', nI_mul, vpb_n, eq_self, implies_true, grd_t, grd_i, if_pos, if_neg, bI_k, bV_k, bx0, bx1, mh0, mh1, rd_s, rd_o, rd_j, rd_2k, rdL_1k, ↓reduceIte, Bool.false_eq_true, Bool.true_eq_false, Nat.add_eq, Nat.zero_add, Nat.add_zero, not_true_eq_false, not_false_eq_true, hf]
      refine EI.mono (M_sayLoop rm1 mb1 hs q hE2) (fun v w2 h2 => ?_)
      obtain ⟨rfl, rm2, mb2, s2, gm⟩ := h2
      refine ⟨rfl, inv_xm h gx gm rx1 xb1 rm2 mb2 ⟨hn, q, ok.2.2⟩ g1.2.2.2.1 (fwV_ok hf) ?_ (n_le g1.2.1.1 hn)⟩
      rw [s1, s2, gx.2.1 62 (by omega)]
      exact g1.2.2.2.2.2
    · simp (disch := omega) only [k0, k1, k2, k3, k4, k5, k6, k7, k8, k9, k10, k12, k20, k30, k31, k40, k99, k160, ite_self, nI_add, nI_leI, nI_ltI, nI_eq, nI_clamp, nI_sub', nI_mul, vpb_n, eq_self, implies_true, grd_t, grd_i, if_pos, if_neg, bI_k, bV_k, bx0, bx1, mh0, mh1, rd_s, rd_o, rd_j, rd_2k, rdL_1k, ↓reduceIte, Bool.false_eq_true, Bool.true_eq_false, Nat.add_eq, Nat.zero_add, Nat.add_zero, not_true_eq_false, not_false_eq_true, hf]
      refine Ev.i ?_
      show EI (f_M_say (u_X_refuse w (-nI 6)) (nI s) (nI m)) _
      unfold f_M_say
      have e1 := noRow_c (w := w) (w' := u_X_refuse w (-nI 6)) (xr_o (by omega)) (nI s)
      have e2 := noSay_c (w := w) (w' := u_X_refuse w (-nI 6)) (xr_o (by omega)) (xr_o (by omega)) (nI s) (nI m)
      rw [h4] at e2
      refine Ev.grd (by rw [e1]; exact gmm) ?_
      simp (disch := omega) only [k0, k1, k2, k3, k4, k5, k6, k7, k8, k9, k10, k12, k20, k30, k31, k40, k99, k160, ite_self, nI_add, nI_leI, nI_ltI, nI_eq, nI_clamp, nI_sub', nI_mul, vpb_n, eq_self, implies_true, grd_t, grd_i, if_pos, if_neg, bI_k, bV_k, bx0, bx1, mh0, mh1, rd_s, rd_o, rd_j, rd_2k, rdL_1k, ↓reduceIte, Bool.false_eq_true, Bool.true_eq_false, Nat.add_eq, Nat.zero_add, Nat.add_zero, not_true_eq_false, not_false_eq_true, e2]
      rw [M_fw (E := E) hs (fun i hi => by rw [xr_2, ← r7 i (by omega)]; exact hE1 i (by omega)) (by omega)]
      simp (disch := omega) only [k0, k1, k2, k3, k4, k5, k6, k7, k8, k9, k10, k12, k20, k30, k31, k40, k99, k160, ite_self, nI_add, nI_leI, nI_ltI, nI_eq, nI_clamp, nI_sub', nI_mul, vpb_n, eq_self, implies_true, grd_t, grd_i, if_pos, if_neg, bI_k, bV_k, bx0, bx1, mh0, mh1, rd_s, rd_o, rd_j, rd_2k, rdL_1k, ↓reduceIte, Bool.false_eq_true, Bool.true_eq_false, Nat.add_eq, Nat.zero_add, Nat.add_zero, not_true_eq_false, not_false_eq_true, hf, v_no]
      exact Ev.i ⟨rfl, inv_ref h (by omega) (by omega)⟩
  · rw [if_neg q] at h4
    simp (disch := omega) only [k0, k1, k2, k3, k4, k5, k6, k7, k8, k9, k10, k12, k20, k30, k31, k40, k99, k160, ite_self, nI_add, nI_leI, nI_ltI, nI_eq, nI_clamp, nI_sub', nI_mul, vpb_n, eq_self, implies_true, grd_t, grd_i, if_pos, if_neg, bI_k, bV_k, bx0, bx1, mh0, mh1, rd_s, rd_o, rd_j, rd_2k, rdL_1k, ↓reduceIte, Bool.false_eq_true, Bool.true_eq_false, Nat.add_eq, Nat.zero_add, Nat.add_zero, not_true_eq_false, not_false_eq_true, h3, v_ref]
    exact Ev.i (rf 6 (by omega) (by omega) h4)
