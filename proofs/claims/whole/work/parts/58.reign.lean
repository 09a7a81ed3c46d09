/-! draws -/
def nx (x : Int32) : Int32 := x * 1103515245 + 12345
def up (x : Int32) : Nat := x.toBitVec.toNat / 65536
theorem up_lt (x : Int32) : up x < 65536 := by
  unfold up
  have := x.toBitVec.isLt
  omega
theorem ush16 (x : Int32) : ush x (nI 16) = nI (up x) := by
  apply Int32.toBitVec_inj.mp
  rw [ush_bv x (by omega)]
  apply BitVec.eq_of_toNat_eq
  rw [BitVec.toNat_ushiftRight, Nat.shiftRight_eq_div_pow]
  show _ = (BitVec.ofNat 32 (up x)).toNat
  rw [BitVec.toNat_ofNat, Nat.mod_eq_of_lt (by have := up_lt x; omega)]
  rfl
def sdN : Nat → Int32 → Int32
  | 0, s => s
  | k + 1, s => nx (sdN k s)
def lenV (s : Int32) : Nat := 1 + up (nx s) % 30
def sayV (s : Int32) (p : Nat) : Int32 := nI (up (sdN (p + 2) s) % 40)
theorem lenV_le (s : Int32) : lenV s ≤ 30 := by
  unfold lenV
  omega
theorem X_drawV {w : MW} : v_Ct_drawUpper w 1 = nI (up (nx (w.1 1 4))) := by
  unfold v_Ct_drawUpper
  rw [rd_s]
  exact ush16 _
theorem X_drawU {w : MW} : u_Ct_drawUpper w 1 = setI w 1 4 (nx (w.1 1 4)) := rfl
theorem M_drawV {w : MW} {d : Nat} (h0 : 0 < d) (hd : d < 100) : v_M_draw w (nI d) = nI (up (nx (w.1 62 12)) % d) := by
  unfold v_M_draw
  rw [rd_s]
  have e := up_lt (nx (w.1 62 12))
  have e2 : ush (w.1 62 12 * 1103515245 + 12345) 16 = nI (up (nx (w.1 62 12))) := ush16 _
  rw [e2, pk_rem (by omega) h0 (by omega)]
theorem M_drawU {w : MW} {x : Int32} : u_M_draw w x = setI w 62 12 (nx (w.1 62 12)) := rfl
theorem X_drawSaying {w : MW} {n L : Nat} {K A F : Nat → Nat} {M S B H : Nat → Int32} {sd : Int32} (rx : RX 1 w n L K A F M S) (hn : n ≤ 8) (e : w.1 1 4 = sd) (xb : XB w n B H) :
    EV (f_Ct_drawSaying w 1) (fun w' => RX 1 w' n (lenV sd) K A F M (sayV sd) ∧ w'.1 1 4 = sdN (lenV sd + 1) sd ∧ XB w' n B H ∧ GX w w') := by
  have hl := lenV_le sd
  obtain ⟨h1, h2, h3, h4⟩ := rx
  unfold f_Ct_drawSaying
  rw [X_drawV, X_drawU]
  unfold u_Ct_hushWords
  have u1 := up_lt (nx sd)
  have e1 : (setI w 1 3 (0 : Int32)).1 1 4 = sd := by rw [rd_j (by omega)]; exact e
  rw [e1]
  have e2 : (1 : Int32) + (nI (up (nx sd)) - nI (up (nx sd)) / 30 * 30) = nI (lenV sd) := by
    have e3 : nI (up (nx sd)) - nI (up (nx sd)) / 30 * 30 = nI (up (nx sd) % 30) := pk_rem (d := 30) (by omega) (by omega) (by omega)
    rw [e3]
    exact nI_add 1 _
  rw [e2]
  refine lp (σ := MW) (F := fun m w' i => f_Ct_drawSaying_16 1 m w' (nI (lenV sd)) (nI i)) (fun w' i => w'.1 1 1 = nI n ∧ w'.1 1 3 = nI i ∧ w'.1 1 4 = sdN (i + 1) sd ∧ (∀ a, 3 ≤ a → a ≤ 10 → w'.1 a = w.1 a) ∧ (∀ p, p < i → w'.1 (1 + 10) p = sayV sd p) ∧ GX w w') (lenV sd) 0 _ ⟨?_, ?_, ?_, ?_, ?_, ?_⟩ (by omega) (by omega) ?_ ?_
  · rw [rd_j (by omega), rd_j (by omega)]
    exact h1
  · rw [rd_j (by omega), rd_s]
    rfl
  · rw [rd_s]
    rfl
  · intro a q1 q2
    rw [rd_o (by omega), rd_o (by omega)]
  · intro p hp
    omega
  · exact ((GX.rfl w).set (by omega)).set (by omega)
  · intro m w' hi
    obtain ⟨i1, i2, i3, i4, i5, i6⟩ := hi
    show Ev (f_Ct_drawSaying_16 1 (m + 1) w' (nI (lenV sd)) (nI (lenV sd))) _
    rw [f_Ct_drawSaying_16]
    simp (disch := omega) only [k0, k1, k2, k3, k4, k5, k6, k7, k8, k9, k10, k12, k20, k30, k31, k40, k99, k160, ite_self, nI_add, nI_leI, nI_ltI, nI_eq, nI_clamp, nI_sub', nI_mul, vpb_n, eq_self, implies_true, grd_t, grd_i, if_pos, if_neg, bI_k, bV_k, bx0, bx1, mh0, mh1, rd_s, rd_o, rd_j, rd_2k, rdL_1k, ↓reduceIte, Bool.false_eq_true, Bool.true_eq_false, Nat.add_eq, Nat.zero_add, Nat.add_zero, not_true_eq_false, not_false_eq_true]
    refine Ev.v ⟨⟨i1, i2, fun i hi => ?_, i5⟩, i3, fun i hi => ?_, i6⟩
    · rw [i4 (1 + 2 + i) (by omega) (by omega)]
      exact h3 i hi
    · rw [i4 (1 + 2 + i) (by omega) (by omega)]
      exact xb i hi
  · intro m w' i _ hi hinv kk
    obtain ⟨i1, i2, i3, i4, i5, i6⟩ := hinv
    show Ev (f_Ct_drawSaying_16 1 (m + 1) w' (nI (lenV sd)) (nI i)) _
    have u2 := up_lt (nx (sdN (i + 1) sd))
    rw [f_Ct_drawSaying_16, X_drawV, X_drawU, i3]
    have e3 : nI (up (nx (sdN (i + 1) sd))) - nI (up (nx (sdN (i + 1) sd))) / 40 * 40 = sayV sd i := pk_rem (d := 40) (by omega) (by omega) (by omega)
    rw [e3]
    unfold u_Ct_addWord
    simp (disch := omega) only [k0, k1, k2, k3, k4, k5, k6, k7, k8, k9, k10, k12, k20, k30, k31, k40, k99, k160, ite_self, nI_add, nI_leI, nI_ltI, nI_eq, nI_clamp, nI_sub', nI_mul, vpb_n, eq_self, implies_true, grd_t, grd_i, if_pos, if_neg, bI_k, bV_k, bx0, bx1, mh0, mh1, rd_s, rd_o, rd_j, rd_2k, rdL_1k, ↓reduceIte, Bool.false_eq_true, Bool.true_eq_false, Nat.add_eq, Nat.zero_add, Nat.add_zero, not_true_eq_false, not_false_eq_true, i2]
    refine kk _ ⟨?_, ?_, ?_, ?_, ?_, ?_⟩
    · rw [rd_j (by omega), rd_o (by omega), rd_j (by omega)]
      exact i1
    · rw [rd_s]
    · rw [rd_j (by omega), rd_o (by omega), rd_s]
      rfl
    · intro a q1 q2
      rw [rd_o (by omega), rd_o (by omega), rd_o (by omega)]
      exact i4 a q1 q2
    · intro p hp
      rw [rd_o (by omega)]
      by_cases q : p = i
      · subst q
        rw [rd_s]
      · rw [rd_j q, rd_o (by omega)]
        exact i5 p (by omega)
    · exact ((i6.set (by omega)).set (by omega)).set (by omega)
abbrev ST : Type := Nat × (Nat → Int32) × Int32 × (Nat → Int32) × (Nat → Int32) × Int32
def stp (n : Nat) (K A F : Nat → Nat) (s : ST) : ST := (lenV s.2.2.1, sayV s.2.2.1, sdN (lenV s.2.2.1 + 1) s.2.2.1,
    audB (sayV s.2.2.1) (lenV s.2.2.1) (hs K A F (lenV s.2.2.1)) s.2.2.2.1, audH (sayV s.2.2.1) (lenV s.2.2.1) (hs K A F (lenV s.2.2.1)) s.2.2.2.2.1,
    s.2.2.2.2.2 + audN (sayV s.2.2.1) (lenV s.2.2.1) (hs K A F (lenV s.2.2.1)) n 0 (nI 0))
def stI (n : Nat) (K A F : Nat → Nat) (s0 : ST) : Nat → ST
  | 0 => s0
  | m + 1 => stp n K A F (stI n K A F s0 m)
theorem sim_reign (x1 : Int32) : SIM (fun w => f_X_reign w x1) (fun w => f_M_reign w x1) := by
  intro sc N w h
  have h0 := h
  obtain ⟨⟨n, L, K, A, F, M, S, g1, g2⟩, g3, g4, g5, g6⟩ := h0
  have hn := g1.2.2.1.1
  have ok := g1.2.2.1
  have hk := ok.2.2
  have refX : (x1 < nI 1 ∨ ¬ x1 ≤ nI 60) → EI (f_X_reign w x1) (fun v w1 => v = -nI 6 ∧ w1 = u_X_refuse w (-nI 6)) := by
    intro q
    unfold f_X_reign
    have k60 : (60 : Int32) = nI 60 := by decide
    by_cases q1 : x1 < nI 1
    · simp (disch := omega) only [k0, k1, k2, k3, k4, k5, k6, k7, k8, k9, k10, k12, k20, k30, k31, k40, k99, k160, ite_self, nI_add, nI_leI, nI_ltI, nI_eq, nI_clamp, nI_sub', nI_mul, vpb_n, eq_self, implies_true, grd_t, grd_i, if_pos, if_neg, bI_k, bV_k, bx0, bx1, mh0, mh1, rd_s, rd_o, rd_j, rd_2k, rdL_1k, ↓reduceIte, Bool.false_eq_true, Bool.true_eq_false, Nat.add_eq, Nat.zero_add, Nat.add_zero, not_true_eq_false, not_false_eq_true, q1, k60]
      exact Ev.i ⟨rfl, rfl⟩
    · have q2 := q.resolve_left q1
      simp (disch := omega) only [k0, k1, k2, k3, k4, k5, k6, k7, k8, k9, k10, k12, k20, k30, k31, k40, k99, k160, ite_self, nI_add, nI_leI, nI_ltI, nI_eq, nI_clamp, nI_sub', nI_mul, vpb_n, eq_self, implies_true, grd_t, grd_i, if_pos, if_neg, bI_k, bV_k, bx0, bx1, mh0, mh1, rd_s, rd_o, rd_j, rd_2k, rdL_1k, ↓reduceIte, Bool.false_eq_true, Bool.true_eq_false, Nat.add_eq, Nat.zero_add, Nat.add_zero, not_true_eq_false, not_false_eq_true, q1, q2, k60]
      exact Ev.i ⟨rfl, rfl⟩
  by_cases hq : x1 < nI 1 ∨ ¬ x1 ≤ nI 60
  · refine EI.mono (refX hq) (fun v w1 h1 => ?_)
    obtain ⟨rfl, rfl⟩ := h1
    show EI (f_M_reign _ x1) _
    unfold f_M_reign
    have e : v_M_within (u_X_refuse w (-nI 6)) x1 (1 : Int32) (60 : Int32) = nI 0 := by
      unfold v_M_within
      rcases hq with q | q
      · exact if_pos q
      · split
        · rfl
        · exact if_pos (Int32.not_le.mp q)
    rw [e]
    simp (disch := omega) only [k0, k1, k2, k3, k4, k5, k6, k7, k8, k9, k10, k12, k20, k30, k31, k40, k99, k160, ite_self, nI_add, nI_leI, nI_ltI, nI_eq, nI_clamp, nI_sub', nI_mul, vpb_n, eq_self, implies_true, grd_t, grd_i, if_pos, if_neg, bI_k, bV_k, bx0, bx1, mh0, mh1, rd_s, rd_o, rd_j, rd_2k, rdL_1k, ↓reduceIte, Bool.false_eq_true, Bool.true_eq_false, Nat.add_eq, Nat.zero_add, Nat.add_zero, not_true_eq_false, not_false_eq_true]
    exact Ev.i ⟨rfl, inv_ref h (by omega) (by omega)⟩
  have q1 : ¬ x1 < nI 1 := fun q => hq (.inl q)
  have q2 : x1 ≤ nI 60 := Decidable.byContradiction fun q => hq (.inr q)
  obtain ⟨R, hR, rfl⟩ : ∃ R, R ≤ 60 ∧ x1 = nI R := by
    refine nI_of2 (M := nI 60) (n := 60) (by decide) (fun q => q1 ?_) q2
    have : (0 : Int32) < nI 1 := by decide
    exact Int32.lt_trans q this
  show EI (f_X_reign w (nI R)) _
  unfold f_X_reign
  have k60 : (60 : Int32) = nI 60 := by decide
  have rn : ∀ k, rideN n M 0 k = k := fun _ => rfl
  generalize hs0 : ((L, S, w.1 62 12, w.1 69, w.1 70, nI 0) : ST) = s0
  have its : ∀ m, stI n K A F s0 (m + 1) = stp n K A F (stI n K A F s0 m) := fun _ => rfl
  have itL : ∀ m, (stI n K A F s0 m).1 ≤ 30 := by
    intro m
    cases m with
    | zero =>
      subst hs0
      exact ok.2.1
    | succ m => exact lenV_le _
  have itS : ∀ m, OKS (stI n K A F s0 m).1 (stI n K A F s0 m).2.1 := by
    intro m
    cases m with
    | zero =>
      subst hs0
      exact g6.oks g1.2.1 ok.2.1
    | succ m => exact fun p _ => ⟨_, Nat.mod_lt _ (by omega), rfl⟩
  rcases Nat.lt_or_ge R 1 with hR1 | hR0
  · exfalso
    have : R = 0 := by omega
    subst this
    exact q1 (by decide)
  simp (disch := omega) only [k0, k1, k2, k3, k4, k5, k6, k7, k8, k9, k10, k12, k20, k30, k31, k40, k99, k160, ite_self, nI_add, nI_leI, nI_ltI, nI_eq, nI_clamp, nI_sub', nI_mul, vpb_n, eq_self, implies_true, grd_t, grd_i, if_pos, if_neg, bI_k, bV_k, bx0, bx1, mh0, mh1, rd_s, rd_o, rd_j, rd_2k, rdL_1k, ↓reduceIte, Bool.false_eq_true, Bool.true_eq_false, Nat.add_eq, Nat.zero_add, Nat.add_zero, not_true_eq_false, not_false_eq_true, k60]
  refine EI.mono (P := fun v w1 => v = (stI n K A F s0 R).2.2.2.2.2 ∧ RX 1 w1 n (stI n K A F s0 R).1 K A F M (stI n K A F s0 R).2.1 ∧ w1.1 1 4 = (stI n K A F s0 R).2.2.1 ∧ XB w1 n (stI n K A F s0 R).2.2.2.1 (stI n K A F s0 R).2.2.2.2.1 ∧ GX w w1) ?_ (fun v w1 h1 => ?_)
  · refine lp (σ := MW × Int32) (F := fun m s i => f_X_reign_22 m s.1 (nI R) s.2 (nI i)) (fun s i => s.2 = (stI n K A F s0 i).2.2.2.2.2 ∧ RX 1 s.1 n (stI n K A F s0 i).1 K A F M (stI n K A F s0 i).2.1 ∧ s.1.1 1 4 = (stI n K A F s0 i).2.2.1 ∧ XB s.1 n (stI n K A F s0 i).2.2.2.1 (stI n K A F s0 i).2.2.2.2.1 ∧ GX w s.1) R 0 (w, nI 0) (by subst hs0; exact ⟨rfl, g1.1, g1.2.2.2.2.2, g1.2.2.2.2.1, GX.rfl w⟩) (by omega) (by omega) ?_ ?_
    · intro m s hi
      obtain ⟨w1, c⟩ := s
      show Ev (f_X_reign_22 (m + 1) w1 (nI R) c (nI R)) _
      rw [f_X_reign_22]
      simp (disch := omega) only [k0, k1, k2, k3, k4, k5, k6, k7, k8, k9, k10, k12, k20, k30, k31, k40, k99, k160, ite_self, nI_add, nI_leI, nI_ltI, nI_eq, nI_clamp, nI_sub', nI_mul, vpb_n, eq_self, implies_true, grd_t, grd_i, if_pos, if_neg, bI_k, bV_k, bx0, bx1, mh0, mh1, rd_s, rd_o, rd_j, rd_2k, rdL_1k, ↓reduceIte, Bool.false_eq_true, Bool.true_eq_false, Nat.add_eq, Nat.zero_add, Nat.add_zero, not_true_eq_false, not_false_eq_true]
      exact Ev.i hi
    · intro m s i _ hi hinv kk
      obtain ⟨w1, c⟩ := s
      obtain ⟨i1, i2, i3, i4, i5⟩ := hinv
      replace i1 : c = _ := i1
      replace i2 : RX 1 w1 n _ K A F M _ := i2
      replace i5 : GX w w1 := i5
      show Ev (f_X_reign_22 (m + 1) w1 (nI R) c (nI i)) _
      rw [f_X_reign_22]
      simp (disch := omega) only [k0, k1, k2, k3, k4, k5, k6, k7, k8, k9, k10, k12, k20, k30, k31, k40, k99, k160, ite_self, nI_add, nI_leI, nI_ltI, nI_eq, nI_clamp, nI_sub', nI_mul, vpb_n, eq_self, implies_true, grd_t, grd_i, if_pos, if_neg, bI_k, bV_k, bx0, bx1, mh0, mh1, rd_s, rd_o, rd_j, rd_2k, rdL_1k, ↓reduceIte, Bool.false_eq_true, Bool.true_eq_false, Nat.add_eq, Nat.zero_add, Nat.add_zero, not_true_eq_false, not_false_eq_true]
      refine Ev.bV (X_drawSaying i2 hn i3 i4) (fun w2 h2 => ?_)
      obtain ⟨j1, j2, j3, j4⟩ := h2
      have ok2 : OK n (lenV (stI n K A F s0 i).2.2.1) K A F := ⟨hn, lenV_le _, hk⟩
      refine Ev.bI (X_hold j1 ok2 (r := 0) (by omega) j3) (fun v w3 h3 => ?_)
      obtain ⟨rfl, l1, l2, l3, l4⟩ := h3
      rw [rn] at l2 ⊢
      refine kk (w3, _) ⟨?_, l1, ?_, l2, (i5.tr j4).tr l4⟩
      · rw [its, i1]
        rfl
      · show w3.1 1 4 = _
        rw [l3, j2]
        rfl
  obtain ⟨rfl, rx1, e1, xb1, gx⟩ := h1
  have rm1 := g1.2.1.gx gx
  have e62 := gx.2.1 62 (by omega)
  show EI (f_M_reign w1 (nI R)) _
  unfold f_M_reign
  have ew : v_M_within w1 (nI R) (1 : Int32) (60 : Int32) = nI 1 := by
    unfold v_M_within
    simp (disch := omega) only [k0, k1, k2, k3, k4, k5, k6, k7, k8, k9, k10, k12, k20, k30, k31, k40, k99, k160, ite_self, nI_add, nI_leI, nI_ltI, nI_eq, nI_clamp, nI_sub', nI_mul, vpb_n, eq_self, implies_true, grd_t, grd_i, if_pos, if_neg, bI_k, bV_k, bx0, bx1, mh0, mh1, rd_s, rd_o, rd_j, rd_2k, rdL_1k, ↓reduceIte, Bool.false_eq_true, Bool.true_eq_false, Nat.add_eq, Nat.zero_add, Nat.add_zero, not_true_eq_false, not_false_eq_true, k60]
  rw [ew]
  simp (disch := omega) only [k0, k1, k2, k3, k4, k5, k6, k7, k8, k9, k10, k12, k20, k30, k31, k40, k99, k160, ite_self, nI_add, nI_leI, nI_ltI, nI_eq, nI_clamp, nI_sub', nI_mul, vpb_n, eq_self, implies_true, grd_t, grd_i, if_pos, if_neg, bI_k, bV_k, bx0, bx1, mh0, mh1, rd_s, rd_o, rd_j, rd_2k, rdL_1k, ↓reduceIte, Bool.false_eq_true, Bool.true_eq_false, Nat.add_eq, Nat.zero_add, Nat.add_zero, not_true_eq_false, not_false_eq_true]
  refine EI.mono (P := fun v w2 => v = (stI n K A F s0 R).2.2.2.2.2 ∧ RM w2 n (stI n K A F s0 R).1 K A F M (stI n K A F s0 R).2.1 ∧ w2.1 62 12 = (stI n K A F s0 R).2.2.1 ∧ MB w2 n (stI n K A F s0 R).2.2.2.1 (stI n K A F s0 R).2.2.2.2.1 ∧ GM w1 w2) ?_ (fun v w2 h2 => ?_)
  · refine lp (σ := MW × Int32) (F := fun m s i => f_M_reign_21 m s.1 (nI R) s.2 (nI i)) (fun s i => s.2 = (stI n K A F s0 i).2.2.2.2.2 ∧ RM s.1 n (stI n K A F s0 i).1 K A F M (stI n K A F s0 i).2.1 ∧ s.1.1 62 12 = (stI n K A F s0 i).2.2.1 ∧ MB s.1 n (stI n K A F s0 i).2.2.2.1 (stI n K A F s0 i).2.2.2.2.1 ∧ GM w1 s.1) R 0 (w1, nI 0) (by subst hs0; exact ⟨rfl, rm1, by rw [e62]; rfl, fun i hi => ⟨by rw [gx.2.1 69 (by omega)]; rfl, by rw [gx.2.1 70 (by omega)]; rfl⟩, GM.rfl w1⟩) (by omega) (by omega) ?_ ?_
    · intro m s hi
      obtain ⟨w2, c⟩ := s
      show Ev (f_M_reign_21 (m + 1) w2 (nI R) c (nI R)) _
      rw [f_M_reign_21]
      simp (disch := omega) only [k0, k1, k2, k3, k4, k5, k6, k7, k8, k9, k10, k12, k20, k30, k31, k40, k99, k160, ite_self, nI_add, nI_leI, nI_ltI, nI_eq, nI_clamp, nI_sub', nI_mul, vpb_n, eq_self, implies_true, grd_t, grd_i, if_pos, if_neg, bI_k, bV_k, bx0, bx1, mh0, mh1, rd_s, rd_o, rd_j, rd_2k, rdL_1k, ↓reduceIte, Bool.false_eq_true, Bool.true_eq_false, Nat.add_eq, Nat.zero_add, Nat.add_zero, not_true_eq_false, not_false_eq_true]
      exact Ev.i hi
    · intro m s i _ hi hinv kk
      obtain ⟨w2, c⟩ := s
      obtain ⟨i1, i2, i3, i4, i5⟩ := hinv
      replace i1 : c = _ := i1
      replace i2 : RM w2 n _ K A F M _ := i2
      replace i3 : w2.1 62 12 = _ := i3
      replace i4 : MB w2 n _ _ := i4
      replace i5 : GM w1 w2 := i5
      obtain ⟨r1, r2, r3, r4⟩ := i2
      generalize hsd : (stI n K A F s0 i).2.2.1 = sd at i3
      have hl := lenV_le sd
      show Ev (f_M_reign_21 (m + 1) w2 (nI R) c (nI i)) _
      have e30 : ¬ (30 : Int32) = 0 := by decide
      rw [f_M_reign_21, grd_i e30]
      have ev : v_M_draw w2 (30 : Int32) = nI (up (nx sd) % 30) := by
        have := M_drawV (w := w2) (d := 30) (by omega) (by omega)
        rw [i3] at this
        exact this
      rw [ev, M_drawU, i3]
      simp (disch := omega) only [k0, k1, k2, k3, k4, k5, k6, k7, k8, k9, k10, k12, k20, k30, k31, k40, k99, k160, ite_self, nI_add, nI_leI, nI_ltI, nI_eq, nI_clamp, nI_sub', nI_mul, vpb_n, eq_self, implies_true, grd_t, grd_i, if_pos, if_neg, bI_k, bV_k, bx0, bx1, mh0, mh1, rd_s, rd_o, rd_j, rd_2k, rdL_1k, ↓reduceIte, Bool.false_eq_true, Bool.true_eq_false, Nat.add_eq, Nat.zero_add, Nat.add_zero, not_true_eq_false, not_false_eq_true]
      refine lp (σ := MW) (F := fun m2 w3 p => f_M_reign_41 _ m2 w3 (nI R) c (nI i) (nI p)) (fun w3 p => w3.1 62 3 = nI n ∧ w3.1 62 10 = nI (lenV sd) ∧ w3.1 62 12 = sdN (p + 1) sd ∧ (∀ a, 66 ≤ a → a ≤ 71 → w3.1 a = w2.1 a) ∧ (∀ q, q < p → w3.1 72 q = sayV sd q) ∧ GM w2 w3) (lenV sd) 0 _ ⟨?_, ?_, ?_, ?_, ?_, ?_⟩ (by omega) (by omega) ?_ ?_
      · rw [rd_j (by omega), rd_j (by omega)]
        exact r1
      · rw [rd_s]
        rfl
      · rw [rd_j (by omega), rd_s]
        rfl
      · intro a q1 q2
        rw [rd_o (by omega), rd_o (by omega)]
      · intro q hq
        omega
      · exact ((GM.rfl w2).set (by omega)).set (by omega)
      · intro m2 w3 hp
        obtain ⟨p1, p2, p3, p4, p5, p6⟩ := hp
        show Ev (f_M_reign_41 _ (m2 + 1) w3 (nI R) c (nI i) (nI (lenV sd))) _
        rw [f_M_reign_41, p2]
        simp (disch := omega) only [k0, k1, k2, k3, k4, k5, k6, k7, k8, k9, k10, k12, k20, k30, k31, k40, k99, k160, ite_self, nI_add, nI_leI, nI_ltI, nI_eq, nI_clamp, nI_sub', nI_mul, vpb_n, eq_self, implies_true, grd_t, grd_i, if_pos, if_neg, bI_k, bV_k, bx0, bx1, mh0, mh1, rd_s, rd_o, rd_j, rd_2k, rdL_1k, ↓reduceIte, Bool.false_eq_true, Bool.true_eq_false, Nat.add_eq, Nat.zero_add, Nat.add_zero, not_true_eq_false, not_false_eq_true]
        have rm3 : RM w3 n (lenV sd) K A F M (sayV sd) := ⟨p1, p2, fun i hi => by rw [p4 66 (by omega) (by omega), p4 67 (by omega) (by omega), p4 68 (by omega) (by omega), p4 71 (by omega) (by omega)]; exact r3 i hi, p5⟩
        have mb3 : MB w3 n _ _ := fun i hi => by rw [p4 69 (by omega) (by omega), p4 70 (by omega) (by omega)]; exact i4 i hi
        have ok2 : OK n (lenV sd) K A F := ⟨hn, lenV_le _, hk⟩
        refine Ev.bI (M_heard rm3 ok2 (r := 0) (by omega) mb3) (fun v w4 h4 => ?_)
        obtain ⟨rfl, l1, l2, l3, l4⟩ := h4
        rw [rn] at l2 ⊢
        subst hsd
        refine kk (w4, _) ⟨?_, l1, ?_, l2, (i5.tr p6).tr l4⟩
        · rw [its, i1]
          rfl
        · show w4.1 62 12 = _
          rw [l3, p3]
          rfl
      · intro m2 w3 p _ hp hinv k2
        obtain ⟨p1, p2, p3, p4, p5, p6⟩ := hinv
        show Ev (f_M_reign_41 _ (m2 + 1) w3 (nI R) c (nI i) (nI p)) _
        have e40 : ¬ (40 : Int32) = 0 := by decide
        rw [f_M_reign_41, grd_i e40, p2]
        have ev : v_M_draw w3 (40 : Int32) = sayV sd p := by
          have := M_drawV (w := w3) (d := 40) (by omega) (by omega)
          rw [p3] at this
          exact this
        rw [ev, M_drawU, p3]
        simp (disch := omega) only [k0, k1, k2, k3, k4, k5, k6, k7, k8, k9, k10, k12, k20, k30, k31, k40, k99, k160, ite_self, nI_add, nI_leI, nI_ltI, nI_eq, nI_clamp, nI_sub', nI_mul, vpb_n, eq_self, implies_true, grd_t, grd_i, if_pos, if_neg, bI_k, bV_k, bx0, bx1, mh0, mh1, rd_s, rd_o, rd_j, rd_2k, rdL_1k, ↓reduceIte, Bool.false_eq_true, Bool.true_eq_false, Nat.add_eq, Nat.zero_add, Nat.add_zero, not_true_eq_false, not_false_eq_true]
        refine k2 _ ⟨?_, ?_, ?_, ?_, ?_, ?_⟩
        · rw [rd_o (by omega), rd_j (by omega)]
          exact p1
        · rw [rd_o (by omega), rd_j (by omega)]
          exact p2
        · rw [rd_o (by omega), rd_s]
          rfl
        · intro a q1 q2
          rw [rd_o (by omega), rd_o (by omega)]
          exact p4 a q1 q2
        · intro q hq
          by_cases e : q = p
          · subst e
            rw [rd_s]
          · rw [rd_j e, rd_o (by omega)]
            exact p5 q (by omega)
        · exact (p6.set (by omega)).set (by omega)
  obtain ⟨rfl, rm2, e2, mb2, gm⟩ := h2
  exact ⟨rfl, inv_xm h gx gm rx1 xb1 rm2 mb2 ⟨hn, itL R, hk⟩ g1.2.2.2.1 (itS R) (by rw [e1, e2]) (n_le g1.2.1.1 hn)⟩
