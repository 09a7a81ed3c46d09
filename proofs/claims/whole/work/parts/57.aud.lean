/-! audiences and reigns -/
def GX (w w' : MW) : Prop := (∀ a j, ¬ Sc a j → ¬ (1 ≤ a ∧ a ≤ 11) → w'.1 a j = w.1 a j) ∧ (∀ a, 61 ≤ a → w'.1 a = w.1 a) ∧ w'.2 = w.2
def GM (w w' : MW) : Prop := (∀ a j, ¬ Sc a j → ¬ (66 ≤ a ∧ a ≤ 72) → ¬ (a = 62 ∧ (j = 3 ∨ j = 10 ∨ j = 12)) → w'.1 a j = w.1 a j) ∧ (∀ a, 81 ≤ a → w'.1 a = w.1 a) ∧ w'.2 = w.2
theorem GX.rfl (w : MW) : GX w w := ⟨fun _ _ _ _ => Eq.refl _, fun _ _ => Eq.refl _, Eq.refl _⟩
theorem GM.rfl (w : MW) : GM w w := ⟨fun _ _ _ _ _ => Eq.refl _, fun _ _ => Eq.refl _, Eq.refl _⟩
theorem GX.tr {a b c : MW} (h1 : GX a b) (h2 : GX b c) : GX a c := ⟨fun k j p q => (h2.1 k j p q).trans (h1.1 k j p q), fun k p => (h2.2.1 k p).trans (h1.2.1 k p), h2.2.2.trans h1.2.2⟩
theorem GM.tr {a b c : MW} (h1 : GM a b) (h2 : GM b c) : GM a c := ⟨fun k j p q r => (h2.1 k j p q r).trans (h1.1 k j p q r), fun k p => (h2.2.1 k p).trans (h1.2.1 k p), h2.2.2.trans h1.2.2⟩
theorem FX.gx {w w' : MW} (h : FX w w') : GX w w' := ⟨fun a j q _ => h.q.1 a j q, fun a q => h.1 a (by omega) (by omega), h.2⟩
theorem FM.gm {w w' : MW} (h : FM w w') : GM w w' := ⟨fun a j q _ _ => h.q'.1 a j q, fun a q => h.q'.2.1 a q, h.2⟩
theorem GX.set {w w' : MW} {a j : Nat} {v : Int32} (h : GX w w') (ha : 1 ≤ a ∧ a ≤ 11) : GX w (setI w' a j v) := ⟨fun k l p q => by rw [rd_o (by omega)]; exact h.1 k l p q, fun k p => by rw [rd_o (by omega)]; exact h.2.1 k p, by rw [rd_2]; exact h.2.2⟩
theorem GM.set {w w' : MW} {a j : Nat} {v : Int32} (h : GM w w') (ha : (66 ≤ a ∧ a ≤ 72) ∨ (a = 62 ∧ (j = 3 ∨ j = 10 ∨ j = 12))) : GM w (setI w' a j v) := ⟨fun k l p q r => by rw [rd_ite, if_neg (by omega)]; exact h.1 k l p q r, fun k p => by rw [rd_o (by omega)]; exact h.2.1 k p, by rw [rd_2]; exact h.2.2⟩
def XB (w : MW) (n : Nat) (B H : Nat → Int32) : Prop := ∀ i, i < n → w.1 (1 + 2 + i) 3 = B i ∧ w.1 (1 + 2 + i) 4 = H i
def MB (w : MW) (n : Nat) (B H : Nat → Int32) : Prop := ∀ i, i < n → w.1 69 i = B i ∧ w.1 70 i = H i
def audB (S : Nat → Int32) (L : Nat) (k B : Nat → Int32) (i : Nat) : Int32 := if senV S L (k i) = -nI 1 then B i else senV S L (k i)
def audH (S : Nat → Int32) (L : Nat) (k H : Nat → Int32) (i : Nat) : Int32 := if senV S L (k i) = -nI 1 then H i else if senV S L (k i) = whV S L then H i + nI 1 else H i
def audN (S : Nat → Int32) (L : Nat) (k : Nat → Int32) : Nat → Nat → Int32 → Int32
  | 0, _, c => c
  | m + 1, i, c => audN S L k m (i + 1) (if senV S L (k i) = -nI 1 then c else if senV S L (k i) = whV S L then c + nI 1 else c)
theorem audN_s {S : Nat → Int32} {L n i : Nat} {k : Nat → Int32} {c : Int32} (h : i < n) : audN S L k (n - i) i c = audN S L k (n - (i + 1)) (i + 1) (if senV S L (k i) = -nI 1 then c else if senV S L (k i) = whV S L then c + nI 1 else c) := by
  rw [show n - i = (n - (i + 1)) + 1 by omega]
  rfl
theorem RX.sBH {w : MW} {n L i j : Nat} {K A F : Nat → Nat} {M S : Nat → Int32} {v : Int32} (h : RX 1 w n L K A F M S) (hn : n ≤ 8) (hi : i < n) (hj : j = 3 ∨ j = 4) : RX 1 (setI w (1 + 2 + i) j v) n L K A F M S := by
  obtain ⟨h1, h2, h3, h4⟩ := h
  refine ⟨by rw [rd_o (by omega)]; exact h1, by rw [rd_o (by omega)]; exact h2, fun l hl => ?_, fun p hp => by rw [rd_o (by omega)]; exact h4 p hp⟩
  have := h3 l hl
  rw [rd_ite, rd_ite, rd_ite, rd_ite, if_neg (by omega), if_neg (by omega), if_neg (by omega), if_neg (by omega)]
  exact this
theorem XB.s {w : MW} {n i : Nat} {B H B' H' : Nat → Int32} (h : XB w n B H) (hb : ∀ j, j < n → j ≠ i → B' j = B j ∧ H' j = H j) {w' : MW} (h1 : ∀ j, j < n → j ≠ i → w'.1 (1 + 2 + j) = w.1 (1 + 2 + j)) (h2 : w'.1 (1 + 2 + i) 3 = B' i ∧ w'.1 (1 + 2 + i) 4 = H' i) : XB w' n B' H' := by
  intro j hj
  by_cases e : j = i
  · subst e
    exact h2
  · rw [h1 j hj e, (hb j hj e).1, (hb j hj e).2]
    exact h j hj
theorem MB.s {w : MW} {n i : Nat} {B H B' H' : Nat → Int32} (h : MB w n B H) (hb : ∀ j, j < n → j ≠ i → B' j = B j ∧ H' j = H j) {w' : MW} (h1 : ∀ j, j < n → j ≠ i → w'.1 69 j = w.1 69 j ∧ w'.1 70 j = w.1 70 j) (h2 : w'.1 69 i = B' i ∧ w'.1 70 i = H' i) : MB w' n B' H' := by
  intro j hj
  by_cases e : j = i
  · subst e
    exact h2
  · rw [(h1 j hj e).1, (h1 j hj e).2, (hb j hj e).1, (hb j hj e).2]
    exact h j hj
theorem X_believe {w : MW} {n L : Nat} {K A F : Nat → Nat} {M S k M' B H : Nat → Int32} (rx : RX 1 w n L K A F M S) (hn : n ≤ 8) (hL : L ≤ 30) (kx : KnX w n k M') (xb : XB w n B H) :
    EI (f_Co_believe w 1) (fun v w' => v = audN S L k n 0 (nI 0) ∧ RX 1 w' n L K A F M S ∧ XB w' n (audB S L k B) (audH S L k H) ∧ w'.1 1 = w.1 1 ∧ GX w w') := by
  unfold f_Co_believe
  rw [X_wholeSense rx (.inl rfl) hL]
  simp only [bI_k]
  refine lp (σ := MW × Int32) (F := fun m s i => f_Co_believe_10 1 m s.1 (whV S L) s.2 (nI i))
    (fun s i => GX w s.1 ∧ s.1.1 1 = w.1 1 ∧ RX 1 s.1 n L K A F M S ∧ KnX s.1 n k M' ∧ XB s.1 n (mixV (audB S L k B) B i) (mixV (audH S L k H) H i) ∧ audN S L k (n - i) i s.2 = audN S L k n 0 (nI 0)) n 0 (w, nI 0)
    ⟨GX.rfl w, Eq.refl _, rx, kx, fun i hi => by rw [mix_g (by omega), mix_g (by omega)]; exact xb i hi, by rw [Nat.sub_zero]⟩ (by omega) (by omega) ?_ ?_
  · intro m s hi
    obtain ⟨w1, c⟩ := s
    obtain ⟨i1, i2, i3, i4, i5, i6⟩ := hi
    replace i4 : KnX w1 n k M' := i4
    show Ev (f_Co_believe_10 1 (m + 1) w1 (whV S L) c (nI n)) _
    rw [f_Co_believe_10, i4.1]
    simp (disch := omega) only [k0, k1, k2, k3, k4, k5, k6, k7, k8, k9, k10, k12, k20, k30, k31, k40, k99, k160, ite_self, nI_add, nI_leI, nI_ltI, nI_eq, nI_clamp, nI_sub', nI_mul, vpb_n, eq_self, implies_true, grd_t, grd_i, if_pos, if_neg, bI_k, bV_k, bx0, bx1, mh0, mh1, rd_s, rd_o, rd_j, rd_2k, rdL_1k, ↓reduceIte, Bool.false_eq_true, Bool.true_eq_false, Nat.add_eq, Nat.zero_add, Nat.add_zero, not_true_eq_false, not_false_eq_true]
    rw [Nat.sub_self] at i6
    refine Ev.i ⟨i6, i3, fun i hi => ?_, i2, i1⟩
    have := i5 i hi
    rw [mix_l hi, mix_l hi] at this
    exact this
  · intro m s i _ hi hinv kk
    obtain ⟨w1, c⟩ := s
    obtain ⟨i1, i2, i3, i4, i5, i6⟩ := hinv
    replace i1 : GX w w1 := i1
    replace i2 : w1.1 1 = w.1 1 := i2
    replace i3 : RX 1 w1 n L K A F M S := i3
    replace i4 : KnX w1 n k M' := i4
    replace i5 : XB w1 n (mixV (audB S L k B) B i) (mixV (audH S L k H) H i) := i5
    replace i6 : audN S L k (n - i) i c = _ := i6
    rw [audN_s hi] at i6
    have b5 := i5 i hi
    rw [mix_g (Nat.le_refl _), mix_g (Nat.le_refl _)] at b5
    have hbo : ∀ j, j < n → j ≠ i → mixV (audB S L k B) B (i + 1) j = mixV (audB S L k B) B i j ∧ mixV (audH S L k H) H (i + 1) j = mixV (audH S L k H) H i j := fun j _ q => ⟨mix_s q, mix_s q⟩
    show Ev (f_Co_believe_10 1 (m + 1) w1 (whV S L) c (nI i)) _
    rw [f_Co_believe_10, i4.1, nI_clamp (by omega), (i4.2 i hi).1, X_senseOf i3 (.inl rfl) hL]
    simp only [bI_k]
    by_cases q1 : senV S L (k i) = -nI 1
    · rw [if_pos q1] at i6
      simp (disch := omega) only [k0, k1, k2, k3, k4, k5, k6, k7, k8, k9, k10, k12, k20, k30, k31, k40, k99, k160, ite_self, nI_add, nI_leI, nI_ltI, nI_eq, nI_clamp, nI_sub', nI_mul, vpb_n, eq_self, implies_true, grd_t, grd_i, if_pos, if_neg, bI_k, bV_k, bx0, bx1, mh0, mh1, rd_s, rd_o, rd_j, rd_2k, rdL_1k, ↓reduceIte, Bool.false_eq_true, Bool.true_eq_false, Nat.add_eq, Nat.zero_add, Nat.add_zero, not_true_eq_false, not_false_eq_true, q1]
      refine kk (w1, c) ⟨i1, i2, i3, i4, i5.s hbo (fun _ _ _ => Eq.refl _) ?_, i6⟩
      rw [mix_l (by omega), mix_l (by omega)]
      unfold audB audH
      rw [if_pos q1, if_pos q1]
      exact b5
    · rw [if_neg q1] at i6
      have kn : ∀ w2 : MW, (∀ a, 50 ≤ a → w2.1 a = w1.1 a) → KnX w2 n k M' := fun w2 e => ⟨by rw [e 53 (by omega)]; exact i4.1, fun j hj => by rw [e 54 (by omega), e 56 (by omega)]; exact i4.2 j hj⟩
      by_cases q2 : senV S L (k i) = whV S L
      · rw [if_pos q2] at i6
        have e4 := b5.2
        rw [q2] at q1 ⊢
        simp (disch := omega) only [k0, k1, k2, k3, k4, k5, k6, k7, k8, k9, k10, k12, k20, k30, k31, k40, k99, k160, ite_self, nI_add, nI_leI, nI_ltI, nI_eq, nI_clamp, nI_sub', nI_mul, vpb_n, eq_self, implies_true, grd_t, grd_i, if_pos, if_neg, bI_k, bV_k, bx0, bx1, mh0, mh1, rd_s, rd_o, rd_j, rd_2k, rdL_1k, ↓reduceIte, Bool.false_eq_true, Bool.true_eq_false, Nat.add_eq, Nat.zero_add, Nat.add_zero, not_true_eq_false, not_false_eq_true, q1, e4]
        refine kk (setI (setI w1 (1 + 2 + i) 3 (whV S L)) (1 + 2 + i) 4 (H i + nI 1), _) ⟨(i1.set (by omega)).set (by omega), by rw [rd_o (by omega), rd_o (by omega)]; exact i2, (i3.sBH hn hi (.inl rfl)).sBH hn hi (.inr rfl), kn _ (fun a q => by rw [rd_o (by omega), rd_o (by omega)]), i5.s hbo (fun j _ q => by rw [rd_o (by omega), rd_o (by omega)]) ?_, i6⟩
        rw [mix_l (by omega), mix_l (by omega)]
        unfold audB audH
        rw [q2, if_neg q1, if_neg q1, if_pos (Eq.refl _)]
        exact ⟨by rw [rd_j (by omega), rd_s], by rw [rd_s]⟩
      · rw [if_neg q2] at i6
        simp (disch := omega) only [k0, k1, k2, k3, k4, k5, k6, k7, k8, k9, k10, k12, k20, k30, k31, k40, k99, k160, ite_self, nI_add, nI_leI, nI_ltI, nI_eq, nI_clamp, nI_sub', nI_mul, vpb_n, eq_self, implies_true, grd_t, grd_i, if_pos, if_neg, bI_k, bV_k, bx0, bx1, mh0, mh1, rd_s, rd_o, rd_j, rd_2k, rdL_1k, ↓reduceIte, Bool.false_eq_true, Bool.true_eq_false, Nat.add_eq, Nat.zero_add, Nat.add_zero, not_true_eq_false, not_false_eq_true, q1, q2]
        refine kk (setI w1 (1 + 2 + i) 3 (senV S L (k i)), _) ⟨i1.set (by omega), by rw [rd_o (by omega)]; exact i2, i3.sBH hn hi (.inl rfl), kn _ (fun a q => by rw [rd_o (by omega)]), i5.s hbo (fun j _ q => by rw [rd_o (by omega)]) ?_, i6⟩
        rw [mix_l (by omega), mix_l (by omega)]
        unfold audB audH
        rw [if_neg q1, if_neg q1, if_neg q2]
        exact ⟨by rw [rd_s], by rw [rd_j (by omega)]; exact b5.2⟩
theorem X_hold {w : MW} {n L r : Nat} {K A F : Nat → Nat} {M S B H : Nat → Int32} (rx : RX 1 w n L K A F M S) (ok : OK n L K A F) (hr : r < 10) (xb : XB w n B H) :
    EI (f_X_hold w (nI r)) (fun v w' => v = audN S L (rideN n M r (hs K A F L)) n 0 (nI 0) ∧ RX 1 w' n L K A F M S ∧ XB w' n (audB S L (rideN n M r (hs K A F L)) B) (audH S L (rideN n M r (hs K A F L)) H) ∧ w'.1 1 = w.1 1 ∧ GX w w') := by
  have hn := ok.1
  unfold f_X_hold
  refine Ev.bV (X_begin rx (by omega) ok) (fun w1 h1 => ?_)
  refine Ev.bV (X_ride hn (by omega) h1.2) (fun w2 h2 => ?_)
  have f2 := h1.1.tr h2.1
  have xb2 : XB w2 n B H := fun i hi => by rw [f2.1 (1 + 2 + i) (by omega) (by omega)]; exact xb i hi
  refine Ev.bI (X_believe (rx.fx hn (by omega) f2) hn ok.2.1 h2.2 xb2) (fun v w3 h3 => ?_)
  obtain ⟨rfl, g1, g2, g3, g4⟩ := h3
  exact Ev.i ⟨Eq.refl _, g1, g2, g3.trans (f2.1 1 (by omega) (by omega)), f2.gx.tr g4⟩
theorem RM.sBH {w : MW} {n L a i : Nat} {K A F : Nat → Nat} {M S : Nat → Int32} {v : Int32} (h : RM w n L K A F M S) (ha : a = 69 ∨ a = 70) : RM (setI w a i v) n L K A F M S := by
  obtain ⟨h1, h2, h3, h4⟩ := h
  refine ⟨by rw [rd_o (by omega)]; exact h1, by rw [rd_o (by omega)]; exact h2, fun l hl => ?_, fun p hp => by rw [rd_o (by omega)]; exact h4 p hp⟩
  rw [rd_o (by omega), rd_o (by omega), rd_o (by omega), rd_o (by omega)]
  exact h3 l hl
theorem M_heard {w : MW} {n L r : Nat} {K A F : Nat → Nat} {M S B H : Nat → Int32} (rm : RM w n L K A F M S) (ok : OK n L K A F) (hr : r < 10) (mb : MB w n B H) :
    EI (f_M_heard w (nI r)) (fun v w' => v = audN S L (rideN n M r (hs K A F L)) n 0 (nI 0) ∧ RM w' n L K A F M S ∧ MB w' n (audB S L (rideN n M r (hs K A F L)) B) (audH S L (rideN n M r (hs K A F L)) H) ∧ w'.1 62 12 = w.1 62 12 ∧ GM w w') := by
  have hn := ok.1
  have hL := ok.2.1
  unfold f_M_heard
  rw [M_wholeOf rm hL]
  simp only [bI_k]
  refine Ev.bV (M_goOn rm ok (r := r) (by omega)) (fun w0 h0 => ?_)
  obtain ⟨f0, e0⟩ := h0
  have mb0 : MB w0 n B H := fun i hi => by rw [f0.1 69 i (by omega) (by omega), f0.1 70 i (by omega) (by omega)]; exact mb i hi
  generalize rideN n M r (hs K A F L) = k at e0 ⊢
  refine lp (σ := MW × Int32) (F := fun m s i => f_M_heard_15 m s.1 (whV S L) s.2 (nI i))
    (fun s i => GM w s.1 ∧ s.1.1 62 12 = w.1 62 12 ∧ RM s.1 n L K A F M S ∧ (∀ j, j < n → s.1.1 77 j = k j) ∧ MB s.1 n (mixV (audB S L k B) B i) (mixV (audH S L k H) H i) ∧ audN S L k (n - i) i s.2 = audN S L k n 0 (nI 0)) n 0 (w0, nI 0)
    ⟨f0.gm, f0.1 62 12 (by omega) (by omega), rm.fm f0, e0, fun i hi => by rw [mix_g (by omega), mix_g (by omega)]; exact mb0 i hi, by rw [Nat.sub_zero]⟩ (by omega) (by omega) ?_ ?_
  · intro m s hi
    obtain ⟨w1, c⟩ := s
    obtain ⟨i1, i2, i3, i4, i5, i6⟩ := hi
    replace i3 : RM w1 n L K A F M S := i3
    show Ev (f_M_heard_15 (m + 1) w1 (whV S L) c (nI n)) _
    rw [f_M_heard_15, i3.1]
    simp (disch := omega) only [k0, k1, k2, k3, k4, k5, k6, k7, k8, k9, k10, k12, k20, k30, k31, k40, k99, k160, ite_self, nI_add, nI_leI, nI_ltI, nI_eq, nI_clamp, nI_sub', nI_mul, vpb_n, eq_self, implies_true, grd_t, grd_i, if_pos, if_neg, bI_k, bV_k, bx0, bx1, mh0, mh1, rd_s, rd_o, rd_j, rd_2k, rdL_1k, ↓reduceIte, Bool.false_eq_true, Bool.true_eq_false, Nat.add_eq, Nat.zero_add, Nat.add_zero, not_true_eq_false, not_false_eq_true]
    rw [Nat.sub_self] at i6
    refine Ev.i ⟨i6, i3, fun i hi => ?_, i2, i1⟩
    have := i5 i hi
    rw [mix_l hi, mix_l hi] at this
    exact this
  · intro m s i _ hi hinv kk
    obtain ⟨w1, c⟩ := s
    obtain ⟨i1, i2, i3, i4, i5, i6⟩ := hinv
    replace i1 : GM w w1 := i1
    replace i2 : w1.1 62 12 = w.1 62 12 := i2
    replace i3 : RM w1 n L K A F M S := i3
    replace i4 : ∀ j, j < n → w1.1 77 j = k j := i4
    replace i5 : MB w1 n (mixV (audB S L k B) B i) (mixV (audH S L k H) H i) := i5
    replace i6 : audN S L k (n - i) i c = _ := i6
    rw [audN_s hi] at i6
    have b5 := i5 i hi
    rw [mix_g (Nat.le_refl _), mix_g (Nat.le_refl _)] at b5
    have hbo : ∀ j, j < n → j ≠ i → mixV (audB S L k B) B (i + 1) j = mixV (audB S L k B) B i j ∧ mixV (audH S L k H) H (i + 1) j = mixV (audH S L k H) H i j := fun j _ q => ⟨mix_s q, mix_s q⟩
    show Ev (f_M_heard_15 (m + 1) w1 (whV S L) c (nI i)) _
    rw [f_M_heard_15, i3.1, nI_clamp (by omega), i4 i hi, M_senseOf i3 hL]
    simp only [bI_k]
    by_cases q1 : senV S L (k i) = -nI 1
    · rw [if_pos q1] at i6
      simp (disch := omega) only [k0, k1, k2, k3, k4, k5, k6, k7, k8, k9, k10, k12, k20, k30, k31, k40, k99, k160, ite_self, nI_add, nI_leI, nI_ltI, nI_eq, nI_clamp, nI_sub', nI_mul, vpb_n, eq_self, implies_true, grd_t, grd_i, if_pos, if_neg, bI_k, bV_k, bx0, bx1, mh0, mh1, rd_s, rd_o, rd_j, rd_2k, rdL_1k, ↓reduceIte, Bool.false_eq_true, Bool.true_eq_false, Nat.add_eq, Nat.zero_add, Nat.add_zero, not_true_eq_false, not_false_eq_true, q1]
      refine kk (w1, c) ⟨i1, i2, i3, i4, i5.s hbo (fun _ _ _ => ⟨Eq.refl _, Eq.refl _⟩) ?_, i6⟩
      rw [mix_l (by omega), mix_l (by omega)]
      unfold audB audH
      rw [if_pos q1, if_pos q1]
      exact b5
    · rw [if_neg q1] at i6
      by_cases q2 : senV S L (k i) = whV S L
      · rw [if_pos q2] at i6
        have e4 := b5.2
        rw [q2] at q1 ⊢
        simp (disch := omega) only [k0, k1, k2, k3, k4, k5, k6, k7, k8, k9, k10, k12, k20, k30, k31, k40, k99, k160, ite_self, nI_add, nI_leI, nI_ltI, nI_eq, nI_clamp, nI_sub', nI_mul, vpb_n, eq_self, implies_true, grd_t, grd_i, if_pos, if_neg, bI_k, bV_k, bx0, bx1, mh0, mh1, rd_s, rd_o, rd_j, rd_2k, rdL_1k, ↓reduceIte, Bool.false_eq_true, Bool.true_eq_false, Nat.add_eq, Nat.zero_add, Nat.add_zero, not_true_eq_false, not_false_eq_true, q1, e4]
        refine kk (setI (setI w1 69 i (whV S L)) 70 i (H i + nI 1), _) ⟨(i1.set (by omega)).set (by omega), by rw [rd_o (by omega), rd_o (by omega)]; exact i2, (i3.sBH (.inl rfl)).sBH (.inr rfl), fun j hj => by rw [rd_o (by omega), rd_o (by omega)]; exact i4 j hj, i5.s hbo (fun j _ q => ⟨by rw [rd_o (by omega), rd_j q], by rw [rd_j q, rd_o (by omega)]⟩) ?_, i6⟩
        rw [mix_l (by omega), mix_l (by omega)]
        unfold audB audH
        rw [q2, if_neg q1, if_neg q1, if_pos (Eq.refl _)]
        exact ⟨by rw [rd_o (by omega), rd_s], by rw [rd_s]⟩
      · rw [if_neg q2] at i6
        simp (disch := omega) only [k0, k1, k2, k3, k4, k5, k6, k7, k8, k9, k10, k12, k20, k30, k31, k40, k99, k160, ite_self, nI_add, nI_leI, nI_ltI, nI_eq, nI_clamp, nI_sub', nI_mul, vpb_n, eq_self, implies_true, grd_t, grd_i, if_pos, if_neg, bI_k, bV_k, bx0, bx1, mh0, mh1, rd_s, rd_o, rd_j, rd_2k, rdL_1k, ↓reduceIte, Bool.false_eq_true, Bool.true_eq_false, Nat.add_eq, Nat.zero_add, Nat.add_zero, not_true_eq_false, not_false_eq_true, q1, q2]
        refine kk (setI w1 69 i (senV S L (k i)), _) ⟨i1.set (by omega), by rw [rd_o (by omega)]; exact i2, i3.sBH (.inl rfl), fun j hj => by rw [rd_o (by omega)]; exact i4 j hj, i5.s hbo (fun j _ q => ⟨by rw [rd_j q], by rw [rd_o (by omega)]⟩) ?_, i6⟩
        rw [mix_l (by omega), mix_l (by omega)]
        unfold audB audH
        rw [if_neg q1, if_neg q1, if_neg q2]
        exact ⟨by rw [rd_s], by rw [rd_o (by omega)]; exact b5.2⟩
theorem inv_ct {sc : Nat → Int32} {N : Nat} {w w2 : MW} (h : Inv sc N w) (hf : ∀ a j, ¬ Sc a j → ¬ pCT a j → w2.1 a j = w.1 a j) (h81 : ∀ a, 81 ≤ a → w2.1 a = w.1 a) (h2 : w2.2 = w.2) {n' L' : Nat} {K' A' F' : Nat → Nat} {M' S' : Nat → Int32}
    (ct : CT w2 n' L' K' A' F' M' S') (os : OKS L' S') (hn : ∀ n, n ≤ 8 → w.1 62 3 = nI n → n ≤ n') : Inv sc N w2 := by
  obtain ⟨⟨n, L, K, A, F, M, S, g1, g2⟩, g3, g4, g5, g6⟩ := h
  have hnn := hn n g1.2.2.1.1 g1.2.1.1
  refine ⟨⟨n', L', K', A', F', M', S', ct, fun s hs => ((g2 s hs).ag hs (fun a j p => hf a j ?_ ?_) (by rw [h2])).up hnn⟩, g3.ag (fun a j p => hf a j ?_ ?_), g4.ag (fun a j p => hf a j ?_ ?_), g5.ag (fun a j p => hf a j ?_ ?_), g6.new h81 (by rw [h2]) ⟨L', S', ct.2.1.2.1, ct.2.2.1.2.1, ct.2.1.2.2.2, os⟩⟩
  · unfold pSH at p
    unfold Sc
    omega
  · unfold pSH at p
    unfold pCT
    omega
  · unfold pFR at p
    unfold Sc
    omega
  · unfold pFR at p
    unfold pCT
    omega
  · unfold pTR at p
    unfold Sc
    omega
  · unfold pTR at p
    unfold pCT
    omega
  · unfold pIM at p
    unfold Sc
    omega
  · unfold pIM at p
    unfold pCT
    omega
theorem CT.mk2 {w1 w2 : MW} {n L : Nat} {K A F : Nat → Nat} {M S B H : Nat → Int32} (rx : RX 1 w1 n L K A F M S) (xb : XB w1 n B H) (rm : RM w2 n L K A F M S) (mb : MB w2 n B H) (ok : OK n L K A F) (om : OKM n M)
    (e : ∀ a j, a = 1 ∨ (3 ≤ a ∧ a ≤ 11) → w2.1 a j = w1.1 a j) (es : w1.1 1 4 = w2.1 62 12) : CT w2 n L K A F M S := by
  have hn := ok.1
  obtain ⟨h1, h2, h3, h4⟩ := rx
  refine ⟨⟨(e 1 1 (by omega)).trans h1, (e 1 3 (by omega)).trans h2, fun i hi => ?_, fun p hp => (e (1 + 10) p (by omega)).trans (h4 p hp)⟩, rm, ok, om, fun i hi => ?_, (e 1 4 (by omega)).trans es⟩
  · rw [e (1 + 2 + i) 0 (by omega), e (1 + 2 + i) 1 (by omega), e (1 + 2 + i) 2 (by omega), e (1 + 2 + i) 5 (by omega)]
    exact h3 i hi
  · rw [e (1 + 2 + i) 3 (by omega), e (1 + 2 + i) 4 (by omega)]
    exact ⟨(xb i hi).1.trans (mb i hi).1.symm, (xb i hi).2.trans (mb i hi).2.symm⟩
theorem inv_xm {sc : Nat → Int32} {N : Nat} {w w1 w2 : MW} (h : Inv sc N w) (gx : GX w w1) (gm : GM w1 w2) {n L : Nat} {K A F : Nat → Nat} {M S B H : Nat → Int32} (rx : RX 1 w1 n L K A F M S) (xb : XB w1 n B H) (rm : RM w2 n L K A F M S) (mb : MB w2 n B H) (ok : OK n L K A F) (om : OKM n M) (os : OKS L S)
    (es : w1.1 1 4 = w2.1 62 12) (hn : ∀ n', n' ≤ 8 → w.1 62 3 = nI n' → n' ≤ n) : Inv sc N w2 := by
  refine inv_ct h (fun a j p q => ?_) (fun a q => (gm.2.1 a q).trans (gx.2.1 a (by omega))) (gm.2.2.trans gx.2.2) (CT.mk2 rx xb rm mb ok om (fun a j q => gm.1 a j ?_ ?_ ?_) es) os hn
  · by_cases c : 1 ≤ a ∧ a ≤ 11
    · unfold Sc at p
      unfold pCT at q
      omega
    · rw [gm.1 a j p (by unfold pCT at q; omega) (by unfold pCT at q; omega), gx.1 a j p c]
  · unfold Sc
    omega
  · omega
  · omega
theorem RM.gx {w w1 : MW} (gx : GX w w1) {n L : Nat} {K A F : Nat → Nat} {M S : Nat → Int32} (h : RM w n L K A F M S) : RM w1 n L K A F M S := by
  obtain ⟨h1, h2, h3, h4⟩ := h
  have e := gx.2.1
  refine ⟨by rw [e _ (by omega)]; exact h1, by rw [e _ (by omega)]; exact h2, fun l hl => ?_, fun p hp => by rw [e _ (by omega)]; exact h4 p hp⟩
  rw [e _ (by omega), e _ (by omega), e _ (by omega), e _ (by omega)]
  exact h3 l hl
theorem n_le {w : MW} {n : Nat} (h : w.1 62 3 = nI n) (hn : n ≤ 8) : ∀ n', n' ≤ 8 → w.1 62 3 = nI n' → n' ≤ n := by
  intro n' h1 h2
  rw [h, nI_eq (by omega) (by omega)] at h2
  omega
theorem sim_audience (x1 : Int32) : SIM (fun w => f_X_audience w x1) (fun w => f_M_audience w x1) := by
  intro sc N w h
  have h0 := h
  obtain ⟨⟨n, L, K, A, F, M, S, g1, g2⟩, g3, g4, g5, g6⟩ := h0
  have hn := g1.2.2.1.1
  have ok := g1.2.2.1
  show EI (f_X_audience w x1) _
  unfold f_X_audience
  rcases tri x1 10 (by omega) with hb | ⟨r, hr, rfl⟩
  · rw [isRo_b hb]
    simp (disch := omega) only [k0, k1, k2, k3, k4, k5, k6, k7, k8, k9, k10, k12, k20, k30, k31, k40, k99, k160, ite_self, nI_add, nI_leI, nI_ltI, nI_eq, nI_clamp, nI_sub', nI_mul, vpb_n, eq_self, implies_true, grd_t, grd_i, if_pos, if_neg, bI_k, bV_k, bx0, bx1, mh0, mh1, rd_s, rd_o, rd_j, rd_2k, rdL_1k, ↓reduceIte, Bool.false_eq_true, Bool.true_eq_false, Nat.add_eq, Nat.zero_add, Nat.add_zero, not_true_eq_false, not_false_eq_true]
    refine Ev.i ?_
    show EI (f_M_audience (u_X_refuse w (-nI 6)) x1) _
    unfold f_M_audience
    rw [mro_b hb]
    simp (disch := omega) only [k0, k1, k2, k3, k4, k5, k6, k7, k8, k9, k10, k12, k20, k30, k31, k40, k99, k160, ite_self, nI_add, nI_leI, nI_ltI, nI_eq, nI_clamp, nI_sub', nI_mul, vpb_n, eq_self, implies_true, grd_t, grd_i, if_pos, if_neg, bI_k, bV_k, bx0, bx1, mh0, mh1, rd_s, rd_o, rd_j, rd_2k, rdL_1k, ↓reduceIte, Bool.false_eq_true, Bool.true_eq_false, Nat.add_eq, Nat.zero_add, Nat.add_zero, not_true_eq_false, not_false_eq_true]
    exact Ev.i ⟨rfl, inv_ref h (by omega) (by omega)⟩
  rw [isRo_g hr]
  simp (disch := omega) only [k0, k1, k2, k3, k4, k5, k6, k7, k8, k9, k10, k12, k20, k30, k31, k40, k99, k160, ite_self, nI_add, nI_leI, nI_ltI, nI_eq, nI_clamp, nI_sub', nI_mul, vpb_n, eq_self, implies_true, grd_t, grd_i, if_pos, if_neg, bI_k, bV_k, bx0, bx1, mh0, mh1, rd_s, rd_o, rd_j, rd_2k, rdL_1k, ↓reduceIte, Bool.false_eq_true, Bool.true_eq_false, Nat.add_eq, Nat.zero_add, Nat.add_zero, not_true_eq_false, not_false_eq_true]
  have xb : XB w n (w.1 69) (w.1 70) := g1.2.2.2.2.1
  refine Ev.bI (X_hold g1.1 ok hr xb) (fun v w1 h1 => ?_)
  obtain ⟨rfl, rx1, xb1, e1, gx⟩ := h1
  have rm1 := g1.2.1.gx gx
  have mb1 : MB w1 n (w.1 69) (w.1 70) := fun i hi => by rw [gx.2.1 69 (by omega), gx.2.1 70 (by omega)]; exact ⟨rfl, rfl⟩
  refine Ev.i ?_
  show EI (f_M_audience w1 (nI r)) _
  unfold f_M_audience
  rw [mro_g hr]
  simp (disch := omega) only [k0, k1, k2, k3, k4, k5, k6, k7, k8, k9, k10, k12, k20, k30, k31, k40, k99, k160, ite_self, nI_add, nI_leI, nI_ltI, nI_eq, nI_clamp, nI_sub', nI_mul, vpb_n, eq_self, implies_true, grd_t, grd_i, if_pos, if_neg, bI_k, bV_k, bx0, bx1, mh0, mh1, rd_s, rd_o, rd_j, rd_2k, rdL_1k, ↓reduceIte, Bool.false_eq_true, Bool.true_eq_false, Nat.add_eq, Nat.zero_add, Nat.add_zero, not_true_eq_false, not_false_eq_true]
  refine Ev.bI (M_heard rm1 ok hr mb1) (fun v w2 h2 => ?_)
  obtain ⟨rfl, rm2, mb2, e2, gm⟩ := h2
  refine Ev.i ⟨rfl, inv_xm h gx gm rx1 xb1 rm2 mb2 ok g1.2.2.2.1 (g6.oks g1.2.1 ok.2.1) ?_ (n_le g1.2.1.1 hn)⟩
  rw [e1, e2, gx.2.1 62 (by omega)]
  exact g1.2.2.2.2.2
