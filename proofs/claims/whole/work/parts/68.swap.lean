/-! swap -/
def mkP (a : Int32) : Prop := a = -nI 1 ∨ ∃ v, v < 10 ∧ a = nI v
theorem mkP_ne {v : Nat} (h : v < 10) : ¬ nI v = -nI 1 := nI_ne_m1 (by omega)
theorem val_ne {a b k : Int32} {c : Bool} (ha : ∃ v, v < 10 ∧ a = nI v) (hb : ∃ v, v < 10 ∧ b = nI v) (hk : ∃ v, v < 10 ∧ k = nI v) : ¬ (nI 100 * a + nI 10 * b + k) + (if c = true then nI 1000 else nI 0) = -nI 1 := by
  obtain ⟨u, hu, rfl⟩ := ha
  obtain ⟨v, hv, rfl⟩ := hb
  obtain ⟨t, ht, rfl⟩ := hk
  rw [nI_mul, nI_mul, nI_add, nI_add]
  cases c
  · rw [if_neg (by decide), nI_add]
    exact nI_ne_m1 (by omega)
  · rw [if_pos rfl, nI_add]
    exact nI_ne_m1 (by omega)
theorem sn_cls {S S' : Nat → Int32} {L : Nat} {x : Int32} (o : OKS L S) (o' : OKS L S') (hc : ∀ p, p < L → S p - S p / nI 4 * nI 4 = S' p - S' p / nI 4 * nI 4) :
    ∀ (m p : Nat) (a b a' b' : Int32) (c c' : Bool), p + m = L → mkP a → mkP b → mkP a' → mkP b' → (a = -nI 1 ↔ a' = -nI 1) → (b = -nI 1 ↔ b' = -nI 1) → (snV S x m p a b c = -nI 1 ↔ snV S' x m p a' b' c' = -nI 1) := by
  intro m
  induction m with
  | zero =>
    intro p a b a' b' c c' _ _ _ _ _ _ _
    rw [snV, snV]
  | succ m ih =>
    intro p a b a' b' c c' hp ha hb ha' hb' hab hbb
    have e := hc p (by omega)
    obtain ⟨v, hv, ev⟩ := o p (by omega)
    obtain ⟨v', hv', ev'⟩ := o' p (by omega)
    have d : S p / nI 4 = nI (v / 4) := by rw [ev, pk_div (by omega) (by omega) (by omega)]
    have d' : S' p / nI 4 = nI (v' / 4) := by rw [ev', pk_div (by omega) (by omega) (by omega)]
    have mk : mkP (S p / nI 4) := .inr ⟨v / 4, by omega, d⟩
    have mk' : mkP (S' p / nI 4) := .inr ⟨v' / 4, by omega, d'⟩
    have mn : ¬ S p / nI 4 = -nI 1 := by rw [d]; exact nI_ne_m1 (by omega)
    have mn' : ¬ S' p / nI 4 = -nI 1 := by rw [d']; exact nI_ne_m1 (by omega)
    rw [snV, snV, ← e]
    by_cases h1 : bt x p = false
    · rw [if_pos h1, if_pos h1]
      exact ih (p + 1) a b a' b' c c' (by omega) ha hb ha' hb' hab hbb
    rw [if_neg h1, if_neg h1]
    by_cases h2 : a = -nI 1
    · rw [if_pos h2, if_pos (hab.mp h2)]
      split
      · exact ih (p + 1) _ b _ b' c c' (by omega) mk hb mk' hb' ⟨fun q => absurd q mn, fun q => absurd q mn'⟩ hbb
      · exact ih (p + 1) a b a' b' c c' (by omega) ha hb ha' hb' hab hbb
    rw [if_neg h2, if_neg (fun q => h2 (hab.mpr q))]
    have h2' : ¬ a' = -nI 1 := fun q => h2 (hab.mpr q)
    split
    · exact ih (p + 1) a b a' b' _ _ (by omega) ha hb ha' hb' hab hbb
    split
    · by_cases h3 : b = -nI 1
      · rw [if_pos h3, if_pos (hbb.mp h3)]
        exact ih (p + 1) a _ a' _ c c' (by omega) ha mk ha' mk' hab ⟨fun q => absurd q mn, fun q => absurd q mn'⟩
      · rw [if_neg h3, if_neg (fun q => h3 (hbb.mpr q))]
        exact ih (p + 1) a b a' b' c c' (by omega) ha hb ha' hb' hab hbb
    split
    · by_cases h3 : b = -nI 1
      · rw [if_pos h3, if_pos (hbb.mp h3)]
        exact ih (p + 1) a b a' b' c c' (by omega) ha hb ha' hb' hab hbb
      · have h3' : ¬ b' = -nI 1 := fun q => h3 (hbb.mpr q)
        rw [if_neg h3, if_neg h3']
        exact ⟨fun q => absurd q (val_ne (ha.resolve_left h2) (hb.resolve_left h3) (mk.resolve_left mn)), fun q => absurd q (val_ne (ha'.resolve_left h2') (hb'.resolve_left h3') (mk'.resolve_left mn'))⟩
    · exact ih (p + 1) a b a' b' c c' (by omega) ha hb ha' hb' hab hbb
def hsN (S : Nat → Int32) (L : Nat) (H : Nat → Int32) : Nat → Nat → Nat → Nat
  | 0, _, c => c
  | m + 1, i, c => hsN S L H m (i + 1) (if senV S L (H i) = -nI 1 then c else c + 1)
theorem hsN_s {S : Nat → Int32} {L n i c : Nat} {H : Nat → Int32} (h : i < n) : hsN S L H (n - i) i c = hsN S L H (n - (i + 1)) (i + 1) (if senV S L (H i) = -nI 1 then c else c + 1) := by
  rw [show n - i = (n - (i + 1)) + 1 by omega]
  rfl
theorem hsN_le {S : Nat → Int32} {L : Nat} {H : Nat → Int32} : ∀ (m i c : Nat), hsN S L H m i c ≤ c + m := by
  intro m
  induction m with
  | zero => intro i c; exact Nat.le_refl _
  | succ m ih =>
    intro i c
    rw [hsN]
    split
    · exact Nat.le_trans (ih _ _) (by omega)
    · exact Nat.le_trans (ih _ _) (by omega)
theorem hsN_c {S S' : Nat → Int32} {L : Nat} {H : Nat → Int32} (h : ∀ x, senV S L x = -nI 1 ↔ senV S' L x = -nI 1) : ∀ (m i c : Nat), hsN S L H m i c = hsN S' L H m i c := by
  intro m
  induction m with
  | zero => intro i c; rfl
  | succ m ih =>
    intro i c
    rw [hsN, hsN, ih]
    by_cases q : senV S L (H i) = -nI 1
    · rw [if_pos q, if_pos ((h _).mp q)]
    · rw [if_neg q, if_neg (fun e => q ((h _).mpr e))]
def hsV (S : Nat → Int32) (L : Nat) (H : Nat → Int32) (n : Nat) : Nat := hsN S L H n 0 0
def exV (S : Nat → Int32) (i j p : Nat) : Int32 := if p = j then S i else if p = i then S j else S p
theorem exV_oks {S : Nat → Int32} {L i j : Nat} (o : OKS L S) (hi : i < L) (hj : j < L) : OKS L (exV S i j) := by
  intro p hp
  unfold exV
  split
  · exact o i hi
  split
  · exact o j hj
  · exact o p hp
theorem same_cls {S : Nat → Int32} {L i j n : Nat} {H : Nat → Int32} (o : OKS L S) (hi : i < L) (hj : j < L) (h : S i - S i / nI 4 * nI 4 = S j - S j / nI 4 * nI 4) : hsV (exV S i j) L H n = hsV S L H n := by
  unfold hsV
  refine hsN_c (fun x => ?_) n 0 0
  refine sn_cls (exV_oks o hi hj) o (fun p hp => ?_) L 0 _ _ _ _ _ _ (by omega) (.inl rfl) (.inl rfl) (.inl rfl) (.inl rfl) Iff.rfl Iff.rfl
  unfold exV
  by_cases q : p = j
  · subst q
    rw [if_pos rfl]
    exact h
  · by_cases q2 : p = i
    · subst q2
      rw [if_neg q, if_pos rfl]
      exact h.symm
    · rw [if_neg q, if_neg q2]
theorem X_howSense {w : MW} {n L : Nat} {T H : Nat → Int32} (hn : n ≤ 8) (hL : L ≤ 30) (h58 : ∀ p, p < L → w.1 58 p = T p) (h59 : ∀ i, i < n → w.1 59 i = H i) : f_Cl_howManyHaveSense w (nI n) (nI L) = some (some (.int (nI (hsV T L H n))), w) := by
  unfold f_Cl_howManyHaveSense
  have h : EI (f_Cl_howManyHaveSense_5 FU w (nI n) (nI L) (nI 0) (nI 0)) (fun v w' => v = nI (hsV T L H n) ∧ w' = w) := by
    refine lp (σ := Nat) (F := fun m c i => f_Cl_howManyHaveSense_5 m w (nI n) (nI L) (nI c) (nI i)) (fun c i => hsN T L H (n - i) i c = hsV T L H n) n 0 0 (by rw [Nat.sub_zero]; rfl) (by omega) (by omega) ?_ ?_
    · intro m c hi
      show Ev (f_Cl_howManyHaveSense_5 (m + 1) w (nI n) (nI L) (nI c) (nI n)) _
      rw [f_Cl_howManyHaveSense_5]
      simp (disch := omega) only [k0, k1, k2, k3, k4, k5, k6, k7, k8, k9, k10, k12, k20, k30, k31, k40, k99, k160, ite_self, nI_add, nI_leI, nI_ltI, nI_eq, nI_clamp, nI_sub', nI_mul, vpb_n, eq_self, implies_true, grd_t, grd_i, if_pos, if_neg, bI_k, bV_k, bx0, bx1, mh0, mh1, rd_s, rd_o, rd_j, rd_2k, rdL_1k, ↓reduceIte, Bool.false_eq_true, Bool.true_eq_false, Nat.add_eq, Nat.zero_add, Nat.add_zero, not_true_eq_false, not_false_eq_true]
      rw [Nat.sub_self] at hi
      exact Ev.i ⟨by rw [← hi]; rfl, rfl⟩
    · intro m c i _ hi hinv kk
      rw [hsN_s hi] at hinv
      show Ev (f_Cl_howManyHaveSense_5 (m + 1) w (nI n) (nI L) (nI c) (nI i)) _
      rw [f_Cl_howManyHaveSense_5, nI_clamp (by omega), h59 i hi, X_sense w 58 T L (H i) hL rfl h58]
      by_cases q : senV T L (H i) = -nI 1
      · rw [if_pos q] at hinv
        simp (disch := omega) only [k0, k1, k2, k3, k4, k5, k6, k7, k8, k9, k10, k12, k20, k30, k31, k40, k99, k160, ite_self, nI_add, nI_leI, nI_ltI, nI_eq, nI_clamp, nI_sub', nI_mul, vpb_n, eq_self, implies_true, grd_t, grd_i, if_pos, if_neg, bI_k, bV_k, bx0, bx1, mh0, mh1, rd_s, rd_o, rd_j, rd_2k, rdL_1k, ↓reduceIte, Bool.false_eq_true, Bool.true_eq_false, Nat.add_eq, Nat.zero_add, Nat.add_zero, not_true_eq_false, not_false_eq_true, q]
        exact kk _ hinv
      · rw [if_neg q] at hinv
        simp (disch := omega) only [k0, k1, k2, k3, k4, k5, k6, k7, k8, k9, k10, k12, k20, k30, k31, k40, k99, k160, ite_self, nI_add, nI_leI, nI_ltI, nI_eq, nI_clamp, nI_sub', nI_mul, vpb_n, eq_self, implies_true, grd_t, grd_i, if_pos, if_neg, bI_k, bV_k, bx0, bx1, mh0, mh1, rd_s, rd_o, rd_j, rd_2k, rdL_1k, ↓reduceIte, Bool.false_eq_true, Bool.true_eq_false, Nat.add_eq, Nat.zero_add, Nat.add_zero, not_true_eq_false, not_false_eq_true, q]
        exact kk _ hinv
  obtain ⟨r, w', e, v, rfl, rfl, rfl⟩ := h
  exact e
theorem M_senses {w : MW} {n L : Nat} {K A F : Nat → Nat} {M S : Nat → Int32} (rm : RM w n L K A F M S) (ok : OK n L K A F) : f_M_senses w = some (some (.int (nI (hsV S L (hs K A F L) n))), w) := by
  have hn := ok.1
  have hL := ok.2.1
  unfold f_M_senses
  have h : EI (f_M_senses_4 FU w (nI 0) (nI 0)) (fun v w' => v = nI (hsV S L (hs K A F L) n) ∧ w' = w) := by
    refine lp (σ := Nat) (F := fun m c i => f_M_senses_4 m w (nI c) (nI i)) (fun c i => hsN S L (hs K A F L) (n - i) i c = hsV S L (hs K A F L) n) n 0 0 (by rw [Nat.sub_zero]; rfl) (by omega) (by omega) ?_ ?_
    · intro m c hi
      show Ev (f_M_senses_4 (m + 1) w (nI c) (nI n)) _
      rw [f_M_senses_4, rm.1]
      simp (disch := omega) only [k0, k1, k2, k3, k4, k5, k6, k7, k8, k9, k10, k12, k20, k30, k31, k40, k99, k160, ite_self, nI_add, nI_leI, nI_ltI, nI_eq, nI_clamp, nI_sub', nI_mul, vpb_n, eq_self, implies_true, grd_t, grd_i, if_pos, if_neg, bI_k, bV_k, bx0, bx1, mh0, mh1, rd_s, rd_o, rd_j, rd_2k, rdL_1k, ↓reduceIte, Bool.false_eq_true, Bool.true_eq_false, Nat.add_eq, Nat.zero_add, Nat.add_zero, not_true_eq_false, not_false_eq_true]
      rw [Nat.sub_self] at hi
      exact Ev.i ⟨by rw [← hi]; rfl, rfl⟩
    · intro m c i _ hi hinv kk
      rw [hsN_s hi] at hinv
      show Ev (f_M_senses_4 (m + 1) w (nI c) (nI i)) _
      rw [f_M_senses_4, rm.1, M_hisOf rm ok hi]
      simp only [bI_k]
      rw [M_senseOf rm hL]
      by_cases q : senV S L (hs K A F L i) = -nI 1
      · rw [if_pos q] at hinv
        simp (disch := omega) only [k0, k1, k2, k3, k4, k5, k6, k7, k8, k9, k10, k12, k20, k30, k31, k40, k99, k160, ite_self, nI_add, nI_leI, nI_ltI, nI_eq, nI_clamp, nI_sub', nI_mul, vpb_n, eq_self, implies_true, grd_t, grd_i, if_pos, if_neg, bI_k, bV_k, bx0, bx1, mh0, mh1, rd_s, rd_o, rd_j, rd_2k, rdL_1k, ↓reduceIte, Bool.false_eq_true, Bool.true_eq_false, Nat.add_eq, Nat.zero_add, Nat.add_zero, not_true_eq_false, not_false_eq_true, q]
        exact kk _ hinv
      · rw [if_neg q] at hinv
        simp (disch := omega) only [k0, k1, k2, k3, k4, k5, k6, k7, k8, k9, k10, k12, k20, k30, k31, k40, k99, k160, ite_self, nI_add, nI_leI, nI_ltI, nI_eq, nI_clamp, nI_sub', nI_mul, vpb_n, eq_self, implies_true, grd_t, grd_i, if_pos, if_neg, bI_k, bV_k, bx0, bx1, mh0, mh1, rd_s, rd_o, rd_j, rd_2k, rdL_1k, ↓reduceIte, Bool.false_eq_true, Bool.true_eq_false, Nat.add_eq, Nat.zero_add, Nat.add_zero, not_true_eq_false, not_false_eq_true, q]
        exact kk _ hinv
  obtain ⟨r, w', e, v, rfl, rfl, rfl⟩ := h
  exact e
def swJ (S : Nat → Int32) (L : Nat) (H : Nat → Int32) (n i : Nat) : Nat → Nat → Nat × Int32 → Nat × Int32
  | 0, _, s => s
  | m + 1, j, s => swJ S L H n i m (j + 1) (if s.1 < hsV (exV S i j) L H n then (hsV (exV S i j) L H n, nI (100 * i + j)) else s)
def swI (S : Nat → Int32) (L : Nat) (H : Nat → Int32) (n : Nat) : Nat → Nat → Nat × Int32 → Nat × Int32
  | 0, _, s => s
  | m + 1, i, s => swI S L H n m (i + 1) (swJ S L H n i (L - (i + 1)) (i + 1) s)
theorem swJ_s {S H : Nat → Int32} {L n i j : Nat} {s : Nat × Int32} (h : j < L) : swJ S L H n i (L - j) j s = swJ S L H n i (L - (j + 1)) (j + 1) (if s.1 < hsV (exV S i j) L H n then (hsV (exV S i j) L H n, nI (100 * i + j)) else s) := by
  rw [show L - j = (L - (j + 1)) + 1 by omega]
  rfl
theorem swI_s {S H : Nat → Int32} {L n i : Nat} {s : Nat × Int32} (h : i < L) : swI S L H n (L - i) i s = swI S L H n (L - (i + 1)) (i + 1) (swJ S L H n i (L - (i + 1)) (i + 1) s) := by
  rw [show L - i = (L - (i + 1)) + 1 by omega]
  rfl
theorem X_swap {w : MW} {n L : Nat} {K A F : Nat → Nat} {M S : Nat → Int32} (rx : RX 1 w n L K A F M S) (ok : OK n L K A F) (o : OKS L S) :
    EI (f_Cl_bestSwap w 1) (fun v w' => v = (swI S L (hs K A F L) n L 0 (hsV S L (hs K A F L) n, -nI 1)).2 ∧ FX w w') := by
  have hn := ok.1
  have hL := ok.2.1
  unfold f_Cl_bestSwap
  have f0 : FX w (setA w 58 (va_cpy (w.1 (1 + 10)) (w.1 58) (0 : Int32).toNatClampNeg (0 : Int32).toNatClampNeg (30 : Int32).toNatClampNeg)) := (FX.rfl w).setA (by omega)
  refine Ev.bV (X_listen (rx.fx hn (by omega) f0) ok) (fun w1 h1 => ?_)
  obtain ⟨f1, e59, e58⟩ := h1
  have f1 := f0.tr f1
  have rx1 := rx.fx hn (by omega) f1
  have h58 : ∀ p, p < L → w1.1 58 p = S p := by
    intro p hp
    rw [e58, setA_s]
    show va_cpy (w.1 (1 + 10)) (w.1 58) (nI 0).toNatClampNeg (nI 0).toNatClampNeg (nI 30).toNatClampNeg p = _
    rw [nI_clamp (by omega), nI_clamp (by omega)]
    unfold va_cpy
    rw [if_pos (by omega), Nat.sub_zero, Nat.zero_add]
    exact rx.2.2.2 p hp
  rw [rx1.1, rx.2.1, X_howSense hn hL h58 e59]
  simp (disch := omega) only [k0, k1, k2, k3, k4, k5, k6, k7, k8, k9, k10, k12, k20, k30, k31, k40, k99, k160, ite_self, nI_add, nI_leI, nI_ltI, nI_eq, nI_clamp, nI_sub', nI_mul, vpb_n, eq_self, implies_true, grd_t, grd_i, if_pos, if_neg, bI_k, bV_k, bx0, bx1, mh0, mh1, rd_s, rd_o, rd_j, rd_2k, rdL_1k, ↓reduceIte, Bool.false_eq_true, Bool.true_eq_false, Nat.add_eq, Nat.zero_add, Nat.add_zero, not_true_eq_false, not_false_eq_true]
  refine lp (σ := MW × Nat × Int32) (F := fun m s i => f_Cl_bestSwap_41 1 m s.1 (nI L) s.2.2 (nI s.2.1) (nI i))
    (fun s i => FX w s.1 ∧ (∀ p, p < L → s.1.1 58 p = S p) ∧ (∀ i, i < n → s.1.1 59 i = hs K A F L i) ∧ hsV S L (hs K A F L) n ≤ s.2.1 ∧ s.2.1 ≤ 8 ∧ swI S L (hs K A F L) n (L - i) i s.2 = swI S L (hs K A F L) n L 0 (hsV S L (hs K A F L) n, -nI 1)) L 0 (w1, hsV S L (hs K A F L) n, -nI 1)
    ⟨f1, h58, e59, Nat.le_refl _, Nat.le_trans (hsN_le n 0 0) (by omega), by rw [Nat.sub_zero]⟩ (by omega) (by omega) ?_ ?_
  · intro m s hi
    obtain ⟨w2, c, x⟩ := s
    obtain ⟨i1, i2, i3, i4, i5, i6⟩ := hi
    show Ev (f_Cl_bestSwap_41 1 (m + 1) w2 (nI L) x (nI c) (nI L)) _
    rw [f_Cl_bestSwap_41]
    simp (disch := omega) only [k0, k1, k2, k3, k4, k5, k6, k7, k8, k9, k10, k12, k20, k30, k31, k40, k99, k160, ite_self, nI_add, nI_leI, nI_ltI, nI_eq, nI_clamp, nI_sub', nI_mul, vpb_n, eq_self, implies_true, grd_t, grd_i, if_pos, if_neg, bI_k, bV_k, bx0, bx1, mh0, mh1, rd_s, rd_o, rd_j, rd_2k, rdL_1k, ↓reduceIte, Bool.false_eq_true, Bool.true_eq_false, Nat.add_eq, Nat.zero_add, Nat.add_zero, not_true_eq_false, not_false_eq_true]
    rw [Nat.sub_self] at i6
    exact Ev.i ⟨by rw [← i6]; rfl, i1⟩
  · intro m s i _ hi hinv kk
    obtain ⟨w2, c, x⟩ := s
    obtain ⟨i1, i2, i3, i4, i5, i6⟩ := hinv
    replace i6 : swI S L (hs K A F L) n (L - i) i (c, x) = _ := i6
    rw [swI_s hi] at i6
    show Ev (f_Cl_bestSwap_41 1 (m + 1) w2 (nI L) x (nI c) (nI i)) _
    rw [f_Cl_bestSwap_41]
    simp (disch := omega) only [k0, k1, k2, k3, k4, k5, k6, k7, k8, k9, k10, k12, k20, k30, k31, k40, k99, k160, ite_self, nI_add, nI_leI, nI_ltI, nI_eq, nI_clamp, nI_sub', nI_mul, vpb_n, eq_self, implies_true, grd_t, grd_i, if_pos, if_neg, bI_k, bV_k, bx0, bx1, mh0, mh1, rd_s, rd_o, rd_j, rd_2k, rdL_1k, ↓reduceIte, Bool.false_eq_true, Bool.true_eq_false, Nat.add_eq, Nat.zero_add, Nat.add_zero, not_true_eq_false, not_false_eq_true]
    refine lp (σ := MW × Nat × Int32) (F := fun q s j => f_Cl_bestSwap_53 1 _ q s.1 (nI L) s.2.2 (nI s.2.1) (nI i) (nI j))
      (fun s j => FX w s.1 ∧ (∀ p, p < L → s.1.1 58 p = S p) ∧ (∀ i, i < n → s.1.1 59 i = hs K A F L i) ∧ hsV S L (hs K A F L) n ≤ s.2.1 ∧ s.2.1 ≤ 8 ∧ swJ S L (hs K A F L) n i (L - j) j s.2 = swJ S L (hs K A F L) n i (L - (i + 1)) (i + 1) (c, x)) L (i + 1) (w2, c, x) ⟨i1, i2, i3, i4, i5, rfl⟩ (by omega) (by omega) ?_ ?_
    · intro q s hj
      obtain ⟨w3, c2, x2⟩ := s
      obtain ⟨j1, j2, j3, j4, j5, j6⟩ := hj
      show Ev (f_Cl_bestSwap_53 1 _ (q + 1) w3 (nI L) x2 (nI c2) (nI i) (nI L)) _
      rw [f_Cl_bestSwap_53]
      simp (disch := omega) only [k0, k1, k2, k3, k4, k5, k6, k7, k8, k9, k10, k12, k20, k30, k31, k40, k99, k160, ite_self, nI_add, nI_leI, nI_ltI, nI_eq, nI_clamp, nI_sub', nI_mul, vpb_n, eq_self, implies_true, grd_t, grd_i, if_pos, if_neg, bI_k, bV_k, bx0, bx1, mh0, mh1, rd_s, rd_o, rd_j, rd_2k, rdL_1k, ↓reduceIte, Bool.false_eq_true, Bool.true_eq_false, Nat.add_eq, Nat.zero_add, Nat.add_zero, not_true_eq_false, not_false_eq_true]
      rw [Nat.sub_self] at j6
      replace j6 : (c2, x2) = _ := j6
      rw [← j6] at i6
      exact kk (w3, c2, x2) ⟨j1, j2, j3, j4, j5, i6⟩
    · intro q s j hij hj hinv k2
      obtain ⟨w3, c2, x2⟩ := s
      obtain ⟨j1, j2, j3, j4, j5, j6⟩ := hinv
      replace j1 : FX w w3 := j1
      replace j2 : ∀ p, p < L → w3.1 58 p = S p := j2
      replace j3 : ∀ i, i < n → w3.1 59 i = hs K A F L i := j3
      replace j4 : hsV S L (hs K A F L) n ≤ c2 := j4
      replace j5 : c2 ≤ 8 := j5
      replace j6 : swJ S L (hs K A F L) n i (L - j) j (c2, x2) = _ := j6
      rw [swJ_s hj] at j6
      have ei := j2 i hi
      have ej := j2 j hj
      have rx3 := rx.fx hn (by omega) j1
      show Ev (f_Cl_bestSwap_53 1 _ (q + 1) w3 (nI L) x2 (nI c2) (nI i) (nI j)) _
      rw [f_Cl_bestSwap_53]
      by_cases hc : S i - S i / nI 4 * nI 4 = S j - S j / nI 4 * nI 4
      · have e := same_cls (n := n) (H := hs K A F L) o hi hj hc
        rw [e, if_neg (by show ¬ c2 < _; omega)] at j6
        simp (disch := omega) only [k0, k1, k2, k3, k4, k5, k6, k7, k8, k9, k10, k12, k20, k30, k31, k40, k99, k160, ite_self, nI_add, nI_leI, nI_ltI, nI_eq, nI_clamp, nI_sub', nI_mul, vpb_n, eq_self, implies_true, grd_t, grd_i, if_pos, if_neg, bI_k, bV_k, bx0, bx1, mh0, mh1, rd_s, rd_o, rd_j, rd_2k, rdL_1k, ↓reduceIte, Bool.false_eq_true, Bool.true_eq_false, Nat.add_eq, Nat.zero_add, Nat.add_zero, not_true_eq_false, not_false_eq_true, ei, ej, hc]
        exact k2 (w3, c2, x2) ⟨j1, j2, j3, j4, j5, j6⟩
      · have n1 : ¬ i = j := by omega
        unfold f_Cl_exchange
        simp (disch := omega) only [k0, k1, k2, k3, k4, k5, k6, k7, k8, k9, k10, k12, k20, k30, k31, k40, k99, k160, ite_self, nI_add, nI_leI, nI_ltI, nI_eq, nI_clamp, nI_sub', nI_mul, vpb_n, eq_self, implies_true, grd_t, grd_i, if_pos, if_neg, bI_k, bV_k, bx0, bx1, mh0, mh1, rd_s, rd_o, rd_j, rd_2k, rdL_1k, ↓reduceIte, Bool.false_eq_true, Bool.true_eq_false, Nat.add_eq, Nat.zero_add, Nat.add_zero, not_true_eq_false, not_false_eq_true, ei, ej, hc]
        have fx1 : FX w (setI (setI w3 58 i (S j)) 58 j (S i)) := (j1.set (by omega)).set (by omega)
        have g58 : ∀ p, p < L → (setI (setI w3 58 i (S j)) 58 j (S i)).1 58 p = exV S i j p := by
          intro p hp
          unfold exV
          by_cases q1 : p = j
          · subst q1
            rw [rd_s, if_pos rfl]
          · rw [rd_j q1, if_neg q1]
            by_cases q2 : p = i
            · subst q2
              rw [rd_s, if_pos rfl]
            · rw [rd_j q2, if_neg q2]
              exact j2 p hp
        have g59 : ∀ l, l < n → (setI (setI w3 58 i (S j)) 58 j (S i)).1 59 l = hs K A F L l := fun l hl => by rw [rd_o (by omega), rd_o (by omega)]; exact j3 l hl
        rw [rx3.1, X_howSense hn hL g58 g59]
        simp (disch := omega) only [k0, k1, k2, k3, k4, k5, k6, k7, k8, k9, k10, k12, k20, k30, k31, k40, k99, k160, ite_self, nI_add, nI_leI, nI_ltI, nI_eq, nI_clamp, nI_sub', nI_mul, vpb_n, eq_self, implies_true, grd_t, grd_i, if_pos, if_neg, bI_k, bV_k, bx0, bx1, mh0, mh1, rd_s, rd_o, rd_j, rd_2k, rdL_1k, ↓reduceIte, Bool.false_eq_true, Bool.true_eq_false, Nat.add_eq, Nat.zero_add, Nat.add_zero, not_true_eq_false, not_false_eq_true]
        have fx2 : FX w (setI (setI (setI (setI w3 58 i (S j)) 58 j (S i)) 58 i (S i)) 58 j (S j)) := (fx1.set (by omega)).set (by omega)
        have h58' : ∀ p, p < L → (setI (setI (setI (setI w3 58 i (S j)) 58 j (S i)) 58 i (S i)) 58 j (S j)).1 58 p = S p := by
          intro p hp
          by_cases q1 : p = j
          · subst q1
            rw [rd_s]
          · rw [rd_j q1]
            by_cases q2 : p = i
            · subst q2
              rw [rd_s]
            · rw [rd_j q2, rd_j q1, rd_j q2]
              exact j2 p hp
        have h59' : ∀ l, l < n → (setI (setI (setI (setI w3 58 i (S j)) 58 j (S i)) 58 i (S i)) 58 j (S j)).1 59 l = hs K A F L l := fun l hl => by rw [rd_o (by omega), rd_o (by omega)]; exact g59 l hl
        have hle : hsV (exV S i j) L (hs K A F L) n ≤ 8 := Nat.le_trans (hsN_le n 0 0) (by omega)
        by_cases hq : c2 < hsV (exV S i j) L (hs K A F L) n
        · rw [if_pos hq] at j6
          simp (disch := omega) only [k0, k1, k2, k3, k4, k5, k6, k7, k8, k9, k10, k12, k20, k30, k31, k40, k99, k160, ite_self, nI_add, nI_leI, nI_ltI, nI_eq, nI_clamp, nI_sub', nI_mul, vpb_n, eq_self, implies_true, grd_t, grd_i, if_pos, if_neg, bI_k, bV_k, bx0, bx1, mh0, mh1, rd_s, rd_o, rd_j, rd_2k, rdL_1k, ↓reduceIte, Bool.false_eq_true, Bool.true_eq_false, Nat.add_eq, Nat.zero_add, Nat.add_zero, not_true_eq_false, not_false_eq_true, k100]
          exact k2 (_, hsV (exV S i j) L (hs K A F L) n, _) ⟨fx2, h58', h59', by show _ ≤ hsV (exV S i j) L (hs K A F L) n; omega, hle, j6⟩
        · rw [if_neg hq] at j6
          simp (disch := omega) only [k0, k1, k2, k3, k4, k5, k6, k7, k8, k9, k10, k12, k20, k30, k31, k40, k99, k160, ite_self, nI_add, nI_leI, nI_ltI, nI_eq, nI_clamp, nI_sub', nI_mul, vpb_n, eq_self, implies_true, grd_t, grd_i, if_pos, if_neg, bI_k, bV_k, bx0, bx1, mh0, mh1, rd_s, rd_o, rd_j, rd_2k, rdL_1k, ↓reduceIte, Bool.false_eq_true, Bool.true_eq_false, Nat.add_eq, Nat.zero_add, Nat.add_zero, not_true_eq_false, not_false_eq_true]
          exact k2 (_, c2, x2) ⟨fx2, h58', h59', j4, j5, j6⟩
theorem M_swap {w : MW} {n L : Nat} {K A F : Nat → Nat} {M S : Nat → Int32} (rm : RM w n L K A F M S) (ok : OK n L K A F) :
    EI (f_M_swap w) (fun v w' => v = (swI S L (hs K A F L) n L 0 (hsV S L (hs K A F L) n, -nI 1)).2 ∧ FM w w') := by
  have hn := ok.1
  have hL := ok.2.1
  unfold f_M_swap
  rw [M_senses rm ok]
  simp (disch := omega) only [k0, k1, k2, k3, k4, k5, k6, k7, k8, k9, k10, k12, k20, k30, k31, k40, k99, k160, ite_self, nI_add, nI_leI, nI_ltI, nI_eq, nI_clamp, nI_sub', nI_mul, vpb_n, eq_self, implies_true, grd_t, grd_i, if_pos, if_neg, bI_k, bV_k, bx0, bx1, mh0, mh1, rd_s, rd_o, rd_j, rd_2k, rdL_1k, ↓reduceIte, Bool.false_eq_true, Bool.true_eq_false, Nat.add_eq, Nat.zero_add, Nat.add_zero, not_true_eq_false, not_false_eq_true]
  refine lp (σ := MW × Nat × Int32) (F := fun m s i => f_M_swap_9 m s.1 (nI s.2.1) s.2.2 (nI i))
    (fun s i => FM w s.1 ∧ s.2.1 ≤ 8 ∧ swI S L (hs K A F L) n (L - i) i s.2 = swI S L (hs K A F L) n L 0 (hsV S L (hs K A F L) n, -nI 1)) L 0 (w, hsV S L (hs K A F L) n, -nI 1)
    ⟨FM.rfl w, Nat.le_trans (hsN_le n 0 0) (by omega), by rw [Nat.sub_zero]⟩ (by omega) (by omega) ?_ ?_
  · intro m s hi
    obtain ⟨w2, c, x⟩ := s
    obtain ⟨i1, i5, i6⟩ := hi
    replace i1 : FM w w2 := i1
    have rm2 := rm.fm i1
    show Ev (f_M_swap_9 (m + 1) w2 (nI c) x (nI L)) _
    rw [f_M_swap_9, rm2.2.1]
    simp (disch := omega) only [k0, k1, k2, k3, k4, k5, k6, k7, k8, k9, k10, k12, k20, k30, k31, k40, k99, k160, ite_self, nI_add, nI_leI, nI_ltI, nI_eq, nI_clamp, nI_sub', nI_mul, vpb_n, eq_self, implies_true, grd_t, grd_i, if_pos, if_neg, bI_k, bV_k, bx0, bx1, mh0, mh1, rd_s, rd_o, rd_j, rd_2k, rdL_1k, ↓reduceIte, Bool.false_eq_true, Bool.true_eq_false, Nat.add_eq, Nat.zero_add, Nat.add_zero, not_true_eq_false, not_false_eq_true]
    rw [Nat.sub_self] at i6
    exact Ev.i ⟨by rw [← i6]; rfl, i1⟩
  · intro m s i _ hi hinv kk
    obtain ⟨w2, c, x⟩ := s
    obtain ⟨i1, i5, i6⟩ := hinv
    replace i1 : FM w w2 := i1
    replace i6 : swI S L (hs K A F L) n (L - i) i (c, x) = _ := i6
    rw [swI_s hi] at i6
    have rm2 := rm.fm i1
    show Ev (f_M_swap_9 (m + 1) w2 (nI c) x (nI i)) _
    rw [f_M_swap_9, rm2.2.1]
    simp (disch := omega) only [k0, k1, k2, k3, k4, k5, k6, k7, k8, k9, k10, k12, k20, k30, k31, k40, k99, k160, ite_self, nI_add, nI_leI, nI_ltI, nI_eq, nI_clamp, nI_sub', nI_mul, vpb_n, eq_self, implies_true, grd_t, grd_i, if_pos, if_neg, bI_k, bV_k, bx0, bx1, mh0, mh1, rd_s, rd_o, rd_j, rd_2k, rdL_1k, ↓reduceIte, Bool.false_eq_true, Bool.true_eq_false, Nat.add_eq, Nat.zero_add, Nat.add_zero, not_true_eq_false, not_false_eq_true]
    refine lp (σ := MW × Nat × Int32) (F := fun q s j => f_M_swap_22 _ q s.1 (nI s.2.1) s.2.2 (nI i) (nI j))
      (fun s j => FM w s.1 ∧ s.2.1 ≤ 8 ∧ swJ S L (hs K A F L) n i (L - j) j s.2 = swJ S L (hs K A F L) n i (L - (i + 1)) (i + 1) (c, x)) L (i + 1) (w2, c, x) ⟨i1, i5, rfl⟩ (by omega) (by omega) ?_ ?_
    · intro q s hj
      obtain ⟨w3, c2, x2⟩ := s
      obtain ⟨j1, j5, j6⟩ := hj
      replace j1 : FM w w3 := j1
      have rm3 := rm.fm j1
      show Ev (f_M_swap_22 _ (q + 1) w3 (nI c2) x2 (nI i) (nI L)) _
      rw [f_M_swap_22, rm3.2.1]
      simp (disch := omega) only [k0, k1, k2, k3, k4, k5, k6, k7, k8, k9, k10, k12, k20, k30, k31, k40, k99, k160, ite_self, nI_add, nI_leI, nI_ltI, nI_eq, nI_clamp, nI_sub', nI_mul, vpb_n, eq_self, implies_true, grd_t, grd_i, if_pos, if_neg, bI_k, bV_k, bx0, bx1, mh0, mh1, rd_s, rd_o, rd_j, rd_2k, rdL_1k, ↓reduceIte, Bool.false_eq_true, Bool.true_eq_false, Nat.add_eq, Nat.zero_add, Nat.add_zero, not_true_eq_false, not_false_eq_true]
      rw [Nat.sub_self] at j6
      replace j6 : (c2, x2) = _ := j6
      rw [← j6] at i6
      exact kk (w3, c2, x2) ⟨j1, j5, i6⟩
    · intro q s j hij hj hinv k2
      obtain ⟨w3, c2, x2⟩ := s
      obtain ⟨j1, j5, j6⟩ := hinv
      replace j1 : FM w w3 := j1
      replace j5 : c2 ≤ 8 := j5
      replace j6 : swJ S L (hs K A F L) n i (L - j) j (c2, x2) = _ := j6
      rw [swJ_s hj] at j6
      have rm3 := rm.fm j1
      have ei := rm3.2.2.2 i hi
      have ej := rm3.2.2.2 j hj
      have n1 : ¬ i = j := by omega
      show Ev (f_M_swap_22 _ (q + 1) w3 (nI c2) x2 (nI i) (nI j)) _
      rw [f_M_swap_22, rm3.2.1]
      have ec : ∀ w', u_M_change w' (nI i) (nI j) = setI (setI w' 72 i (w'.1 72 j)) 72 j (w'.1 72 i) := by
        intro w'
        unfold u_M_change
        simp (disch := omega) only [k0, k1, k2, k3, k4, k5, k6, k7, k8, k9, k10, k12, k20, k30, k31, k40, k99, k160, ite_self, nI_add, nI_leI, nI_ltI, nI_eq, nI_clamp, nI_sub', nI_mul, vpb_n, eq_self, implies_true, grd_t, grd_i, if_pos, if_neg, bI_k, bV_k, bx0, bx1, mh0, mh1, rd_s, rd_o, rd_j, rd_2k, rdL_1k, ↓reduceIte, Bool.false_eq_true, Bool.true_eq_false, Nat.add_eq, Nat.zero_add, Nat.add_zero, not_true_eq_false, not_false_eq_true]
      rw [ec, ei, ej]
      have rm4 : RM (setI (setI w3 72 i (S j)) 72 j (S i)) n L K A F M (exV S i j) := by
        obtain ⟨r1, r2, r3, r4⟩ := rm3
        refine ⟨by rw [rd_o (by omega), rd_o (by omega)]; exact r1, by rw [rd_o (by omega), rd_o (by omega)]; exact r2, fun l hl => ?_, fun p hp => ?_⟩
        · rw [rd_o (by omega), rd_o (by omega), rd_o (by omega), rd_o (by omega), rd_o (by omega), rd_o (by omega), rd_o (by omega), rd_o (by omega)]
          exact r3 l hl
        · unfold exV
          by_cases q1 : p = j
          · subst q1
            rw [rd_s, if_pos rfl]
          · rw [rd_j q1, if_neg q1]
            by_cases q2 : p = i
            · subst q2
              rw [rd_s, if_pos rfl]
            · rw [rd_j q2, if_neg q2]
              exact r4 p hp
      rw [M_senses rm4 ok]
      simp only [bI_k]
      rw [ec]
      have g1 : (setI (setI w3 72 i (S j)) 72 j (S i)).1 72 j = S i := rd_s
      have g2 : (setI (setI w3 72 i (S j)) 72 j (S i)).1 72 i = S j := by rw [rd_j n1, rd_s]
      rw [g1, g2]
      have f5 : FM w (setI (setI (setI (setI w3 72 i (S j)) 72 j (S i)) 72 i (S i)) 72 j (S j)) := by
        refine ⟨fun a l q1 q2 => ?_, by rw [rd_2, rd_2, rd_2, rd_2]; exact j1.2⟩
        rw [← j1.1 a l q1 q2]
        by_cases c1 : a = 72 ∧ l = j
        · obtain ⟨rfl, rfl⟩ := c1
          rw [rd_s, ej]
        · by_cases c2 : a = 72 ∧ l = i
          · obtain ⟨rfl, rfl⟩ := c2
            rw [rd_j (by omega), rd_s, ei]
          · rw [rd_ite, if_neg c1, rd_ite, if_neg c2, rd_ite, if_neg c1, rd_ite, if_neg c2]
      have hle : hsV (exV S i j) L (hs K A F L) n ≤ 8 := Nat.le_trans (hsN_le n 0 0) (by omega)
      by_cases hq : c2 < hsV (exV S i j) L (hs K A F L) n
      · rw [if_pos hq] at j6
        simp (disch := omega) only [k0, k1, k2, k3, k4, k5, k6, k7, k8, k9, k10, k12, k20, k30, k31, k40, k99, k160, ite_self, nI_add, nI_leI, nI_ltI, nI_eq, nI_clamp, nI_sub', nI_mul, vpb_n, eq_self, implies_true, grd_t, grd_i, if_pos, if_neg, bI_k, bV_k, bx0, bx1, mh0, mh1, rd_s, rd_o, rd_j, rd_2k, rdL_1k, ↓reduceIte, Bool.false_eq_true, Bool.true_eq_false, Nat.add_eq, Nat.zero_add, Nat.add_zero, not_true_eq_false, not_false_eq_true, k100]
        exact k2 (_, hsV (exV S i j) L (hs K A F L) n, _) ⟨f5, hle, j6⟩
      · rw [if_neg hq] at j6
        simp (disch := omega) only [k0, k1, k2, k3, k4, k5, k6, k7, k8, k9, k10, k12, k20, k30, k31, k40, k99, k160, ite_self, nI_add, nI_leI, nI_ltI, nI_eq, nI_clamp, nI_sub', nI_mul, vpb_n, eq_self, implies_true, grd_t, grd_i, if_pos, if_neg, bI_k, bV_k, bx0, bx1, mh0, mh1, rd_s, rd_o, rd_j, rd_2k, rdL_1k, ↓reduceIte, Bool.false_eq_true, Bool.true_eq_false, Nat.add_eq, Nat.zero_add, Nat.add_zero, not_true_eq_false, not_false_eq_true]
        exact k2 (_, c2, x2) ⟨f5, j5, j6⟩
theorem sim_swap : SIM (fun w => f_X_swap w) (fun w => f_M_swap w) := by
  intro sc N w h
  have h0 := h
  obtain ⟨⟨n, L, K, A, F, M, S, g1, g2⟩, g3, g4, g5, g6⟩ := h0
  have ok := g1.2.2.1
  show EI (f_X_swap w) _
  unfold f_X_swap
  refine Ev.bI (X_swap g1.1 ok (g6.oks g1.2.1 ok.2.1)) (fun v w1 h1 => ?_)
  obtain ⟨rfl, f1⟩ := h1
  have gb := g1.fq f1.q
  refine Ev.i ?_
  refine EI.mono (M_swap gb.2.1 ok) (fun v w2 h2 => ?_)
  obtain ⟨rfl, f2⟩ := h2
  exact ⟨rfl, h.fq (f1.q.tr f2.q')⟩
