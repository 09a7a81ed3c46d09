/-! apart -/
def mixV (a b : Nat → Int32) (l j : Nat) : Int32 := if j < l then a j else b j
theorem mix_l {a b : Nat → Int32} {l j : Nat} (h : j < l) : mixV a b l j = a j := if_pos h
theorem mix_g {a b : Nat → Int32} {l j : Nat} (h : l ≤ j) : mixV a b l j = b j := if_neg (by omega)
theorem mix_s {a b : Nat → Int32} {l j : Nat} (h : j ≠ l) : mixV a b (l + 1) j = mixV a b l j := by
  unfold mixV
  by_cases q : j < l
  · rw [if_pos q, if_pos (by omega)]
  · rw [if_neg q, if_neg (by omega)]
def awayV (M : Nat → Int32) (x : Int32) (i : Nat) : Int32 := if bt x i = true then nI 0 else M i &&& (x ^^^ (-nI 1))
theorem RM.cM {w : MW} {n L : Nat} {K A F : Nat → Nat} {M M' S : Nat → Int32} (h : RM w n L K A F M S) (e : ∀ i, i < n → M' i = M i) : RM w n L K A F M' S :=
  ⟨h.1, h.2.1, fun i hi => by rw [e i hi]; exact h.2.2.1 i hi, h.2.2.2⟩
theorem RM.s71 {w : MW} {n L i : Nat} {K A F : Nat → Nat} {M M' S : Nat → Int32} {v : Int32} (h : RM w n L K A F M S) (e : ∀ j, j < n → j ≠ i → M' j = M j) (e2 : M' i = v) : RM (setI w 71 i v) n L K A F M' S := by
  obtain ⟨h1, h2, h3, h4⟩ := h
  refine ⟨by simp (disch := omega) only [k0, k1, k2, k3, k4, k5, k6, k7, k8, k9, k10, k12, k20, k30, k31, k40, k99, k160, ite_self, nI_add, nI_leI, nI_ltI, nI_eq, nI_clamp, nI_sub', nI_mul, vpb_n, eq_self, implies_true, grd_t, grd_i, if_pos, if_neg, bI_k, bV_k, bx0, bx1, mh0, mh1, rd_s, rd_o, rd_j, rd_2k, rdL_1k, ↓reduceIte, Bool.false_eq_true, Bool.true_eq_false, Nat.add_eq, Nat.zero_add, Nat.add_zero, not_true_eq_false, not_false_eq_true]; exact h1, by simp (disch := omega) only [k0, k1, k2, k3, k4, k5, k6, k7, k8, k9, k10, k12, k20, k30, k31, k40, k99, k160, ite_self, nI_add, nI_leI, nI_ltI, nI_eq, nI_clamp, nI_sub', nI_mul, vpb_n, eq_self, implies_true, grd_t, grd_i, if_pos, if_neg, bI_k, bV_k, bx0, bx1, mh0, mh1, rd_s, rd_o, rd_j, rd_2k, rdL_1k, ↓reduceIte, Bool.false_eq_true, Bool.true_eq_false, Nat.add_eq, Nat.zero_add, Nat.add_zero, not_true_eq_false, not_false_eq_true]; exact h2, fun j hj => ?_, fun p hp => by simp (disch := omega) only [k0, k1, k2, k3, k4, k5, k6, k7, k8, k9, k10, k12, k20, k30, k31, k40, k99, k160, ite_self, nI_add, nI_leI, nI_ltI, nI_eq, nI_clamp, nI_sub', nI_mul, vpb_n, eq_self, implies_true, grd_t, grd_i, if_pos, if_neg, bI_k, bV_k, bx0, bx1, mh0, mh1, rd_s, rd_o, rd_j, rd_2k, rdL_1k, ↓reduceIte, Bool.false_eq_true, Bool.true_eq_false, Nat.add_eq, Nat.zero_add, Nat.add_zero, not_true_eq_false, not_false_eq_true]; exact h4 p hp⟩
  obtain ⟨a1, a2, a3, a4⟩ := h3 j hj
  refine ⟨by simp (disch := omega) only [k0, k1, k2, k3, k4, k5, k6, k7, k8, k9, k10, k12, k20, k30, k31, k40, k99, k160, ite_self, nI_add, nI_leI, nI_ltI, nI_eq, nI_clamp, nI_sub', nI_mul, vpb_n, eq_self, implies_true, grd_t, grd_i, if_pos, if_neg, bI_k, bV_k, bx0, bx1, mh0, mh1, rd_s, rd_o, rd_j, rd_2k, rdL_1k, ↓reduceIte, Bool.false_eq_true, Bool.true_eq_false, Nat.add_eq, Nat.zero_add, Nat.add_zero, not_true_eq_false, not_false_eq_true]; exact a1, by simp (disch := omega) only [k0, k1, k2, k3, k4, k5, k6, k7, k8, k9, k10, k12, k20, k30, k31, k40, k99, k160, ite_self, nI_add, nI_leI, nI_ltI, nI_eq, nI_clamp, nI_sub', nI_mul, vpb_n, eq_self, implies_true, grd_t, grd_i, if_pos, if_neg, bI_k, bV_k, bx0, bx1, mh0, mh1, rd_s, rd_o, rd_j, rd_2k, rdL_1k, ↓reduceIte, Bool.false_eq_true, Bool.true_eq_false, Nat.add_eq, Nat.zero_add, Nat.add_zero, not_true_eq_false, not_false_eq_true]; exact a2, by simp (disch := omega) only [k0, k1, k2, k3, k4, k5, k6, k7, k8, k9, k10, k12, k20, k30, k31, k40, k99, k160, ite_self, nI_add, nI_leI, nI_ltI, nI_eq, nI_clamp, nI_sub', nI_mul, vpb_n, eq_self, implies_true, grd_t, grd_i, if_pos, if_neg, bI_k, bV_k, bx0, bx1, mh0, mh1, rd_s, rd_o, rd_j, rd_2k, rdL_1k, ↓reduceIte, Bool.false_eq_true, Bool.true_eq_false, Nat.add_eq, Nat.zero_add, Nat.add_zero, not_true_eq_false, not_false_eq_true]; exact a3, ?_⟩
  by_cases q : j = i
  · subst q
    rw [rd_s]
    exact e2.symm
  · rw [rd_j q, e j hj q]
    exact a4
theorem RM.key {w w' : MW} {n L : Nat} {K A F : Nat → Nat} {M S : Nat → Int32} (h : RM w n L K A F M S) (e : ∀ a j, (a < 76 ∨ 80 < a) → ¬ (a = 62 ∧ (j = 23 ∨ j = 24)) → w'.1 a j = w.1 a j) : RM w' n L K A F M S := by
  obtain ⟨h1, h2, h3, h4⟩ := h
  refine ⟨by rw [e _ _ (by omega) (by omega)]; exact h1, by rw [e _ _ (by omega) (by omega)]; exact h2, fun j hj => ?_, fun p hp => by rw [e _ _ (by omega) (by omega)]; exact h4 p hp⟩
  rw [e 66 j (by omega) (by omega), e 67 j (by omega) (by omega), e 68 j (by omega) (by omega), e 71 j (by omega) (by omega)]
  exact h3 j hj
theorem FK.set {w w' : MW} {a j : Nat} {v : Int32} (h : FK w w') (q : (66 ≤ a ∧ a ≤ 71 ∧ j < 8) ∨ (a = 72 ∧ j < 30) ∨ (a = 62 ∧ (j = 3 ∨ j = 10 ∨ j = 12))) : FK w (setI w' a j v) := by
  obtain ⟨h1, h2, h3, h4, h5, h6, h7⟩ := h
  refine ⟨fun b l a1 a2 a3 a4 a5 => by rw [rd_ite, if_neg (by omega)]; exact h1 b l a1 a2 a3 a4 a5, by rw [rd_2]; exact h2, fun m hm => ?_, fun p hp => ?_, ?_, ?_, ?_⟩
  · rw [rd_o (by omega)]
    exact h3 m hm
  · rw [rd_o (by omega)]
    exact h4 p hp
  · rw [rd_o (by omega)]
    exact h5
  · rw [rd_o (by omega)]
    exact h6
  · rw [rd_o (by omega)]
    exact h7
noncomputable def apF (n : Nat) (M S : Nat → Int32) (L : Nat) (H : Nat → Int32) (man : Nat) : Nat → Nat → Int32 → Int32
  | 0, _, b => b
  | m + 1, s, b => apF n M S L H man m (s + 1) (if bt (nI s) man = false ∧ (b = -nI 1 ∨ ¬ pc b ≤ pc (nI s)) ∧ soonV n (awayV M (nI s)) S L H man = -nI 1 then nI s else b)
theorem apF_s {n N s L man : Nat} {M S H : Nat → Int32} {b : Int32} (h : s < N) : apF n M S L H man (N - s) s b = apF n M S L H man (N - (s + 1)) (s + 1) (if bt (nI s) man = false ∧ (b = -nI 1 ∨ ¬ pc b ≤ pc (nI s)) ∧ soonV n (awayV M (nI s)) S L H man = -nI 1 then nI s else b) := by
  rw [show N - s = (N - (s + 1)) + 1 by omega]
  rfl
theorem X_sendAway {w : MW} {n : Nat} {k M : Nat → Int32} {x : Int32} (hn : n ≤ 8) (h : KnX w n k M) : EV (f_Co_sendAway w x) (fun w' => FX w w' ∧ KnX w' n k (awayV M x)) := by
  unfold f_Co_sendAway
  refine lp (σ := MW) (F := fun m w' i => f_Co_sendAway_2 m w' x (nI i)) (fun w' i => FX w w' ∧ KnX w' n k (mixV (awayV M x) M i)) n 0 w ⟨FX.rfl w, h.1, fun i hi => by rw [mix_g (by omega)]; exact h.2 i hi⟩ (by omega) (by omega) ?_ ?_
  · intro m w' hi
    obtain ⟨i1, i2, i3⟩ := hi
    show Ev (f_Co_sendAway_2 (m + 1) w' x (nI n)) _
    rw [f_Co_sendAway_2, i2]
    simp (disch := omega) only [k0, k1, k2, k3, k4, k5, k6, k7, k8, k9, k10, k12, k20, k30, k31, k40, k99, k160, ite_self, nI_add, nI_leI, nI_ltI, nI_eq, nI_clamp, nI_sub', nI_mul, vpb_n, eq_self, implies_true, grd_t, grd_i, if_pos, if_neg, bI_k, bV_k, bx0, bx1, mh0, mh1, rd_s, rd_o, rd_j, rd_2k, rdL_1k, ↓reduceIte, Bool.false_eq_true, Bool.true_eq_false, Nat.add_eq, Nat.zero_add, Nat.add_zero, not_true_eq_false, not_false_eq_true]
    refine Ev.v ⟨i1, i2, fun j hj => ?_⟩
    have := i3 j hj
    rw [mix_l hj] at this
    exact this
  · intro m w' i _ hi hinv kk
    obtain ⟨i1, i2, i3⟩ := hinv
    show Ev (f_Co_sendAway_2 (m + 1) w' x (nI i)) _
    rw [f_Co_sendAway_2, i2]
    have e56 := (i3 i hi).2
    rw [mix_g (by omega)] at e56
    have fin : ∀ v, v = awayV M x i → FX w (setI w' 56 i v) ∧ KnX (setI w' 56 i v) n k (mixV (awayV M x) M (i + 1)) := by
      intro v hv
      refine ⟨i1.set (by omega), by simp (disch := omega) only [k0, k1, k2, k3, k4, k5, k6, k7, k8, k9, k10, k12, k20, k30, k31, k40, k99, k160, ite_self, nI_add, nI_leI, nI_ltI, nI_eq, nI_clamp, nI_sub', nI_mul, vpb_n, eq_self, implies_true, grd_t, grd_i, if_pos, if_neg, bI_k, bV_k, bx0, bx1, mh0, mh1, rd_s, rd_o, rd_j, rd_2k, rdL_1k, ↓reduceIte, Bool.false_eq_true, Bool.true_eq_false, Nat.add_eq, Nat.zero_add, Nat.add_zero, not_true_eq_false, not_false_eq_true]; exact i2, fun j hj => ?_⟩
      obtain ⟨b1, b2⟩ := i3 j hj
      by_cases e : j = i
      · subst e
        rw [rd_o (by omega), rd_s, mix_l (by omega)]
        exact ⟨b1, hv⟩
      · rw [rd_o (by omega), rd_j e, mix_s e]
        exact ⟨b1, b2⟩
    by_cases hb : bt x i = true
    · simp (disch := omega) only [k0, k1, k2, k3, k4, k5, k6, k7, k8, k9, k10, k12, k20, k30, k31, k40, k99, k160, ite_self, nI_add, nI_leI, nI_ltI, nI_eq, nI_clamp, nI_sub', nI_mul, vpb_n, eq_self, implies_true, grd_t, grd_i, if_pos, if_neg, bI_k, bV_k, bx0, bx1, mh0, mh1, rd_s, rd_o, rd_j, rd_2k, rdL_1k, ↓reduceIte, Bool.false_eq_true, Bool.true_eq_false, Nat.add_eq, Nat.zero_add, Nat.add_zero, not_true_eq_false, not_false_eq_true, hb]
      exact kk _ (fin _ (by unfold awayV; rw [if_pos hb]))
    · simp (disch := omega) only [k0, k1, k2, k3, k4, k5, k6, k7, k8, k9, k10, k12, k20, k30, k31, k40, k99, k160, ite_self, nI_add, nI_leI, nI_ltI, nI_eq, nI_clamp, nI_sub', nI_mul, vpb_n, eq_self, implies_true, grd_t, grd_i, if_pos, if_neg, bI_k, bV_k, bx0, bx1, mh0, mh1, rd_s, rd_o, rd_j, rd_2k, rdL_1k, ↓reduceIte, Bool.false_eq_true, Bool.true_eq_false, Nat.add_eq, Nat.zero_add, Nat.add_zero, not_true_eq_false, not_false_eq_true, hb, e56]
      exact kk _ (fin _ (by unfold awayV; rw [if_neg hb]))
theorem pc8 {m i : Nat} (h : m < 256) (hi : i < 8) (hb : bt (nI m) i = false) : pc (nI m) < nI 8 := by
  have key : ∀ m, m < 256 → m = 255 ∨ pcV (nI m) < nI 8 := by decide +kernel
  rcases key m h with rfl | q
  · have key2 : ∀ i, i < 8 → bt (nI 255) i = true := by decide +kernel
    rw [key2 i hi] at hb
    cases hb
  · rw [pc_eq]
    exact q
theorem X_apart {w : MW} {n L : Nat} {K A F : Nat → Nat} {M S : Nat → Int32} (rx : RX 1 w n L K A F M S) (ok : OK n L K A F) {i : Nat} (hi : i < n) :
    EI (f_Co_fewestApart w 1 (nI i)) (fun v w' => v = apF n M S L (hs K A F L) i (2 ^ n) 0 (-nI 1) ∧ FX w w') := by
  have hn := ok.1
  have hp := p256 hn
  have hp0 := Nat.two_pow_pos n
  unfold f_Co_fewestApart
  refine lp (σ := MW × Int32 × Int32) (F := fun m s j => f_Co_fewestApart_9 1 m s.1 (nI i) s.2.1 s.2.2 (nI j))
    (fun s j => FX w s.1 ∧ apF n M S L (hs K A F L) i (2 ^ n - j) j s.2.1 = apF n M S L (hs K A F L) i (2 ^ n) 0 (-nI 1) ∧ ((s.2.1 = -nI 1 ∧ s.2.2 = nI 8) ∨ (∃ b, b < 256 ∧ s.2.1 = nI b ∧ s.2.2 = pc (nI b)))) (2 ^ n) 0 (w, -nI 1, nI 8) ⟨FX.rfl w, by rw [Nat.sub_zero], .inl ⟨rfl, rfl⟩⟩ (by omega) (by omega) ?_ ?_
  · intro m s hi
    obtain ⟨w1, x, y⟩ := s
    obtain ⟨f1, i1, i2⟩ := hi
    replace f1 : FX w w1 := f1
    have rx1 := rx.fx hn (by omega) f1
    show Ev (f_Co_fewestApart_9 1 (m + 1) w1 (nI i) x y (nI (2 ^ n))) _
    rw [f_Co_fewestApart_9, rx1.1]
    simp (disch := omega) only [k0, k1, k2, k3, k4, k5, k6, k7, k8, k9, k10, k12, k20, k30, k31, k40, k99, k160, ite_self, nI_add, nI_leI, nI_ltI, nI_eq, nI_clamp, nI_sub', nI_mul, vpb_n, eq_self, implies_true, grd_t, grd_i, if_pos, if_neg, bI_k, bV_k, bx0, bx1, mh0, mh1, rd_s, rd_o, rd_j, rd_2k, rdL_1k, ↓reduceIte, Bool.false_eq_true, Bool.true_eq_false, Nat.add_eq, Nat.zero_add, Nat.add_zero, not_true_eq_false, not_false_eq_true, sh1n]
    rw [Nat.sub_self] at i1
    exact Ev.i ⟨i1, f1⟩
  · intro m s j _ hj hinv kk
    obtain ⟨w1, x, y⟩ := s
    obtain ⟨f1, i1, i2⟩ := hinv
    replace f1 : FX w w1 := f1
    replace i2 : (x = -nI 1 ∧ y = nI 8) ∨ (∃ b, b < 256 ∧ x = nI b ∧ y = pc (nI b)) := i2
    replace i1 : apF n M S L (hs K A F L) i (2 ^ n - j) j x = _ := i1
    have rx1 := rx.fx hn (by omega) f1
    show Ev (f_Co_fewestApart_9 1 (m + 1) w1 (nI i) x y (nI j)) _
    rw [f_Co_fewestApart_9, rx1.1, bk]
    simp only [bI_k]
    rw [apF_s hj] at i1
    by_cases hb : bt (nI j) i = true
    · rw [if_neg (fun q => by rw [hb] at q; cases q.1)] at i1
      simp (disch := omega) only [k0, k1, k2, k3, k4, k5, k6, k7, k8, k9, k10, k12, k20, k30, k31, k40, k99, k160, ite_self, nI_add, nI_leI, nI_ltI, nI_eq, nI_clamp, nI_sub', nI_mul, vpb_n, eq_self, implies_true, grd_t, grd_i, if_pos, if_neg, bI_k, bV_k, bx0, bx1, mh0, mh1, rd_s, rd_o, rd_j, rd_2k, rdL_1k, ↓reduceIte, Bool.false_eq_true, Bool.true_eq_false, Nat.add_eq, Nat.zero_add, Nat.add_zero, not_true_eq_false, not_false_eq_true, sh1n, hb]
      exact kk (w1, x, y) ⟨f1, i1, i2⟩
    have hb' : bt (nI j) i = false := by simpa using hb
    have h8 := pc8 (by omega) (by omega) hb'
    have key : (pc (nI j) < y) ↔ (x = -nI 1 ∨ ¬ pc x ≤ pc (nI j)) := by
      rcases i2 with ⟨rfl, rfl⟩ | ⟨b, hb, rfl, rfl⟩
      · exact ⟨fun _ => .inl rfl, fun _ => h8⟩
      · constructor
        · exact fun q => .inr (Int32.not_le.mpr q)
        · rintro (q | q)
          · exact absurd q (nI_ne_m1 (by omega))
          · exact Int32.not_le.mp q
    by_cases hq : pc (nI j) < y
    · simp (disch := omega) only [k0, k1, k2, k3, k4, k5, k6, k7, k8, k9, k10, k12, k20, k30, k31, k40, k99, k160, ite_self, nI_add, nI_leI, nI_ltI, nI_eq, nI_clamp, nI_sub', nI_mul, vpb_n, eq_self, implies_true, grd_t, grd_i, if_pos, if_neg, bI_k, bV_k, bx0, bx1, mh0, mh1, rd_s, rd_o, rd_j, rd_2k, rdL_1k, ↓reduceIte, Bool.false_eq_true, Bool.true_eq_false, Nat.add_eq, Nat.zero_add, Nat.add_zero, not_true_eq_false, not_false_eq_true, sh1n, hb', hq]
      refine Ev.bV (X_begin rx1 (by omega) ok) (fun w2 h2 => ?_)
      refine Ev.bV (X_sendAway hn h2.2) (fun w3 h3 => ?_)
      have f3 := h2.1.tr h3.1
      have rx3 := rx1.fx hn (by omega) f3
      refine Ev.bI (X_rounds rx3 ok h3.2 hi) (fun v w4 h4 => ?_)
      obtain ⟨rfl, f4⟩ := h4
      have f4 := f1.tr (f3.tr f4)
      by_cases hz : soonV n (awayV M (nI j)) S L (hs K A F L) i = -nI 1
      · rw [if_pos ⟨hb', key.mp hq, hz⟩] at i1
        simp (disch := omega) only [k0, k1, k2, k3, k4, k5, k6, k7, k8, k9, k10, k12, k20, k30, k31, k40, k99, k160, ite_self, nI_add, nI_leI, nI_ltI, nI_eq, nI_clamp, nI_sub', nI_mul, vpb_n, eq_self, implies_true, grd_t, grd_i, if_pos, if_neg, bI_k, bV_k, bx0, bx1, mh0, mh1, rd_s, rd_o, rd_j, rd_2k, rdL_1k, ↓reduceIte, Bool.false_eq_true, Bool.true_eq_false, Nat.add_eq, Nat.zero_add, Nat.add_zero, not_true_eq_false, not_false_eq_true, hz]
        exact kk (w4, nI j, pc (nI j)) ⟨f4, i1, .inr ⟨j, by omega, rfl, rfl⟩⟩
      · rw [if_neg (fun q => hz q.2.2)] at i1
        simp (disch := omega) only [k0, k1, k2, k3, k4, k5, k6, k7, k8, k9, k10, k12, k20, k30, k31, k40, k99, k160, ite_self, nI_add, nI_leI, nI_ltI, nI_eq, nI_clamp, nI_sub', nI_mul, vpb_n, eq_self, implies_true, grd_t, grd_i, if_pos, if_neg, bI_k, bV_k, bx0, bx1, mh0, mh1, rd_s, rd_o, rd_j, rd_2k, rdL_1k, ↓reduceIte, Bool.false_eq_true, Bool.true_eq_false, Nat.add_eq, Nat.zero_add, Nat.add_zero, not_true_eq_false, not_false_eq_true, hz]
        exact kk (w4, x, y) ⟨f4, i1, i2⟩
    · rw [if_neg (fun q => hq (key.mpr q.2.1))] at i1
      simp (disch := omega) only [k0, k1, k2, k3, k4, k5, k6, k7, k8, k9, k10, k12, k20, k30, k31, k40, k99, k160, ite_self, nI_add, nI_leI, nI_ltI, nI_eq, nI_clamp, nI_sub', nI_mul, vpb_n, eq_self, implies_true, grd_t, grd_i, if_pos, if_neg, bI_k, bV_k, bx0, bx1, mh0, mh1, rd_s, rd_o, rd_j, rd_2k, rdL_1k, ↓reduceIte, Bool.false_eq_true, Bool.true_eq_false, Nat.add_eq, Nat.zero_add, Nat.add_zero, not_true_eq_false, not_false_eq_true, sh1n, hb', hq]
      exact kk (w1, x, y) ⟨f1, i1, i2⟩
theorem M_apart {w : MW} {n L : Nat} {K A F : Nat → Nat} {M S : Nat → Int32} (rm : RM w n L K A F M S) (ok : OK n L K A F) {i : Nat} (hi : i < n) :
    EI (bV (f_M_keep w 76) (fun w3 => f_M_apart_26 FU w3 (nI i) (-nI 1) (nI 0))) (fun v w' => v = apF n M S L (hs K A F L) i (2 ^ n) 0 (-nI 1) ∧ FQ w w') := by
  have hn := ok.1
  have hp := p256 hn
  have hp0 := Nat.two_pow_pos n
  refine Ev.bV (M_keep (a1 := 76) (by omega) (by omega)) (fun w1 h1 => ?_)
  have fk1 := FK.start h1.1 h1.2.1 h1.2.2
  refine lp (σ := MW × Int32) (F := fun m s j => f_M_apart_26 m s.1 (nI i) s.2 (nI j))
    (fun s j => FK w s.1 ∧ (∀ a j, (a < 76 ∨ 80 < a) → ¬ (a = 62 ∧ (j = 23 ∨ j = 24)) → s.1.1 a j = w.1 a j) ∧ apF n M S L (hs K A F L) i (2 ^ n - j) j s.2 = apF n M S L (hs K A F L) i (2 ^ n) 0 (-nI 1)) (2 ^ n) 0 (w1, -nI 1) ⟨fk1, fun a j q _ => h1.1 a j (by omega), by rw [Nat.sub_zero]⟩ (by omega) (by omega) ?_ ?_
  · intro m s hi
    obtain ⟨w2, x⟩ := s
    obtain ⟨f1, f2, i1⟩ := hi
    replace f2 : ∀ a j, (a < 76 ∨ 80 < a) → ¬ (a = 62 ∧ (j = 23 ∨ j = 24)) → w2.1 a j = w.1 a j := f2
    replace f1 : FK w w2 := f1
    have rm2 := rm.key f2
    show Ev (f_M_apart_26 (m + 1) w2 (nI i) x (nI (2 ^ n))) _
    rw [f_M_apart_26, rm2.1]
    simp (disch := omega) only [k0, k1, k2, k3, k4, k5, k6, k7, k8, k9, k10, k12, k20, k30, k31, k40, k99, k160, ite_self, nI_add, nI_leI, nI_ltI, nI_eq, nI_clamp, nI_sub', nI_mul, vpb_n, eq_self, implies_true, grd_t, grd_i, if_pos, if_neg, bI_k, bV_k, bx0, bx1, mh0, mh1, rd_s, rd_o, rd_j, rd_2k, rdL_1k, ↓reduceIte, Bool.false_eq_true, Bool.true_eq_false, Nat.add_eq, Nat.zero_add, Nat.add_zero, not_true_eq_false, not_false_eq_true, sh1n]
    rw [Nat.sub_self] at i1
    refine Ev.i ⟨i1, fun a j q => f2 a j (by unfold Sc at q; omega) (by unfold Sc at q; omega), fun a q => ?_, f1.2.1⟩
    funext j
    exact f2 a j (by omega) (by omega)
  · intro m s j _ hj hinv kk
    obtain ⟨w2, x⟩ := s
    obtain ⟨f1, f2, i1⟩ := hinv
    replace f2 : ∀ a j, (a < 76 ∨ 80 < a) → ¬ (a = 62 ∧ (j = 23 ∨ j = 24)) → w2.1 a j = w.1 a j := f2
    replace f1 : FK w w2 := f1
    replace i1 : apF n M S L (hs K A F L) i (2 ^ n - j) j x = _ := i1
    have rm2 := rm.key f2
    show Ev (f_M_apart_26 (m + 1) w2 (nI i) x (nI j)) _
    rw [f_M_apart_26, rm2.1, M_isBetter]
    simp only [bI_k]
    rw [apF_s hj] at i1
    by_cases hb : bt (nI j) i = true
    · rw [if_neg (fun q => by rw [hb] at q; cases q.1)] at i1
      simp (disch := omega) only [k0, k1, k2, k3, k4, k5, k6, k7, k8, k9, k10, k12, k20, k30, k31, k40, k99, k160, ite_self, nI_add, nI_leI, nI_ltI, nI_eq, nI_clamp, nI_sub', nI_mul, vpb_n, eq_self, implies_true, grd_t, grd_i, if_pos, if_neg, bI_k, bV_k, bx0, bx1, mh0, mh1, rd_s, rd_o, rd_j, rd_2k, rdL_1k, ↓reduceIte, Bool.false_eq_true, Bool.true_eq_false, Nat.add_eq, Nat.zero_add, Nat.add_zero, not_true_eq_false, not_false_eq_true, sh1n, hb]
      exact kk (w2, x) ⟨f1, f2, i1⟩
    have hb' : bt (nI j) i = false := by simpa using hb
    by_cases hq : x = -nI 1 ∨ ¬ pc x ≤ pc (nI j)
    · rw [if_pos hq]
      simp (disch := omega) only [k0, k1, k2, k3, k4, k5, k6, k7, k8, k9, k10, k12, k20, k30, k31, k40, k99, k160, ite_self, nI_add, nI_leI, nI_ltI, nI_eq, nI_clamp, nI_sub', nI_mul, vpb_n, eq_self, implies_true, grd_t, grd_i, if_pos, if_neg, bI_k, bV_k, bx0, bx1, mh0, mh1, rd_s, rd_o, rd_j, rd_2k, rdL_1k, ↓reduceIte, Bool.false_eq_true, Bool.true_eq_false, Nat.add_eq, Nat.zero_add, Nat.add_zero, not_true_eq_false, not_false_eq_true, sh1n, hb']
      refine lp (σ := MW) (F := fun m2 w' l => f_M_apart_58 _ m2 w' (nI i) x (nI j) (nI l)) (fun w' l => FK w w' ∧ RM w' n L K A F (mixV (awayV M (nI j)) M l) S) n 0 w2 ⟨f1, rm2.cM (fun t ht => mix_g (by omega))⟩ (by omega) (by omega) ?_ ?_
      · intro m2 w3 h3
        obtain ⟨f3, rm3⟩ := h3
        have rm3' : RM w3 n L K A F (awayV M (nI j)) S := rm3.cM (fun t ht => (mix_l ht).symm)
        show Ev (f_M_apart_58 _ (m2 + 1) w3 (nI i) x (nI j) (nI n)) _
        rw [f_M_apart_58, rm3.1]
        simp (disch := omega) only [k0, k1, k2, k3, k4, k5, k6, k7, k8, k9, k10, k12, k20, k30, k31, k40, k99, k160, ite_self, nI_add, nI_leI, nI_ltI, nI_eq, nI_clamp, nI_sub', nI_mul, vpb_n, eq_self, implies_true, grd_t, grd_i, if_pos, if_neg, bI_k, bV_k, bx0, bx1, mh0, mh1, rd_s, rd_o, rd_j, rd_2k, rdL_1k, ↓reduceIte, Bool.false_eq_true, Bool.true_eq_false, Nat.add_eq, Nat.zero_add, Nat.add_zero, not_true_eq_false, not_false_eq_true]
        refine Ev.bI (M_soonOf rm3' ok hi) (fun v w4 h4 => ?_)
        obtain ⟨rfl, f4⟩ := h4
        have fk4 := f3.fm f4
        by_cases hz : soonV n (awayV M (nI j)) S L (hs K A F L) i = -nI 1
        · rw [if_pos ⟨hb', hq, hz⟩] at i1
          simp (disch := omega) only [k0, k1, k2, k3, k4, k5, k6, k7, k8, k9, k10, k12, k20, k30, k31, k40, k99, k160, ite_self, nI_add, nI_leI, nI_ltI, nI_eq, nI_clamp, nI_sub', nI_mul, vpb_n, eq_self, implies_true, grd_t, grd_i, if_pos, if_neg, bI_k, bV_k, bx0, bx1, mh0, mh1, rd_s, rd_o, rd_j, rd_2k, rdL_1k, ↓reduceIte, Bool.false_eq_true, Bool.true_eq_false, Nat.add_eq, Nat.zero_add, Nat.add_zero, not_true_eq_false, not_false_eq_true, hz]
          refine Ev.bV (M_again (a1 := 76) (by omega) (by omega)) (fun w5 h5 => ?_)
          have g5 := fk4.ag h5
          exact kk (w5, nI j) ⟨g5.2.1, g5.2.2, i1⟩
        · rw [if_neg (fun q => hz q.2.2)] at i1
          simp (disch := omega) only [k0, k1, k2, k3, k4, k5, k6, k7, k8, k9, k10, k12, k20, k30, k31, k40, k99, k160, ite_self, nI_add, nI_leI, nI_ltI, nI_eq, nI_clamp, nI_sub', nI_mul, vpb_n, eq_self, implies_true, grd_t, grd_i, if_pos, if_neg, bI_k, bV_k, bx0, bx1, mh0, mh1, rd_s, rd_o, rd_j, rd_2k, rdL_1k, ↓reduceIte, Bool.false_eq_true, Bool.true_eq_false, Nat.add_eq, Nat.zero_add, Nat.add_zero, not_true_eq_false, not_false_eq_true, hz]
          refine Ev.bV (M_again (a1 := 76) (by omega) (by omega)) (fun w5 h5 => ?_)
          have g5 := fk4.ag h5
          exact kk (w5, x) ⟨g5.2.1, g5.2.2, i1⟩
      · intro m2 w3 l _ hl hinv k2
        obtain ⟨f3, rm3⟩ := hinv
        show Ev (f_M_apart_58 _ (m2 + 1) w3 (nI i) x (nI j) (nI l)) _
        have e71 := (rm3.2.2.1 l hl).2.2.2
        rw [mix_g (by omega)] at e71
        rw [f_M_apart_58, rm3.1]
        have fin : ∀ v, v = awayV M (nI j) l → FK w (setI w3 71 l v) ∧ RM (setI w3 71 l v) n L K A F (mixV (awayV M (nI j)) M (l + 1)) S := by
          intro v hv
          refine ⟨f3.set (.inl (by omega)), rm3.s71 (fun t ht q => mix_s q) ?_⟩
          rw [mix_l (by omega)]
          exact hv.symm
        by_cases hbl : bt (nI j) l = true
        · simp (disch := omega) only [k0, k1, k2, k3, k4, k5, k6, k7, k8, k9, k10, k12, k20, k30, k31, k40, k99, k160, ite_self, nI_add, nI_leI, nI_ltI, nI_eq, nI_clamp, nI_sub', nI_mul, vpb_n, eq_self, implies_true, grd_t, grd_i, if_pos, if_neg, bI_k, bV_k, bx0, bx1, mh0, mh1, rd_s, rd_o, rd_j, rd_2k, rdL_1k, ↓reduceIte, Bool.false_eq_true, Bool.true_eq_false, Nat.add_eq, Nat.zero_add, Nat.add_zero, not_true_eq_false, not_false_eq_true, hbl]
          exact k2 _ (fin _ (by unfold awayV; rw [if_pos hbl]))
        · have hbl' : bt (nI j) l = false := by simpa using hbl
          simp (disch := omega) only [k0, k1, k2, k3, k4, k5, k6, k7, k8, k9, k10, k12, k20, k30, k31, k40, k99, k160, ite_self, nI_add, nI_leI, nI_ltI, nI_eq, nI_clamp, nI_sub', nI_mul, vpb_n, eq_self, implies_true, grd_t, grd_i, if_pos, if_neg, bI_k, bV_k, bx0, bx1, mh0, mh1, rd_s, rd_o, rd_j, rd_2k, rdL_1k, ↓reduceIte, Bool.false_eq_true, Bool.true_eq_false, Nat.add_eq, Nat.zero_add, Nat.add_zero, not_true_eq_false, not_false_eq_true, hbl', e71]
          exact k2 _ (fin _ (by unfold awayV; rw [if_neg hbl]))
    · rw [if_neg (fun q => hq q.2.1)] at i1
      rw [if_neg hq]
      simp (disch := omega) only [k0, k1, k2, k3, k4, k5, k6, k7, k8, k9, k10, k12, k20, k30, k31, k40, k99, k160, ite_self, nI_add, nI_leI, nI_ltI, nI_eq, nI_clamp, nI_sub', nI_mul, vpb_n, eq_self, implies_true, grd_t, grd_i, if_pos, if_neg, bI_k, bV_k, bx0, bx1, mh0, mh1, rd_s, rd_o, rd_j, rd_2k, rdL_1k, ↓reduceIte, Bool.false_eq_true, Bool.true_eq_false, Nat.add_eq, Nat.zero_add, Nat.add_zero, not_true_eq_false, not_false_eq_true, sh1n, hb']
      exact kk (w2, x) ⟨f1, f2, i1⟩
theorem sim_apart (x1 : Int32) : SIM (fun w => f_X_apart w x1) (fun w => f_M_apart w x1) := by
  intro sc N w h
  have h0 := h
  obtain ⟨⟨n, L, K, A, F, M, S, g1, g2⟩, g3, g4, g5, g6⟩ := h0
  have hn := g1.2.2.1.1
  have ok := g1.2.2.1
  show EI (f_X_apart w x1) _
  unfold f_X_apart
  rcases tri x1 n (by omega) with hb | ⟨i, hi, rfl⟩
  · rw [man_b g1.1.1 hb]
    simp (disch := omega) only [k0, k1, k2, k3, k4, k5, k6, k7, k8, k9, k10, k12, k20, k30, k31, k40, k99, k160, ite_self, nI_add, nI_leI, nI_ltI, nI_eq, nI_clamp, nI_sub', nI_mul, vpb_n, eq_self, implies_true, grd_t, grd_i, if_pos, if_neg, bI_k, bV_k, bx0, bx1, mh0, mh1, rd_s, rd_o, rd_j, rd_2k, rdL_1k, ↓reduceIte, Bool.false_eq_true, Bool.true_eq_false, Nat.add_eq, Nat.zero_add, Nat.add_zero, not_true_eq_false, not_false_eq_true, u_refF]
    refine Ev.i ?_
    show EI (f_M_apart (u_X_refuse w (-nI 1)) x1) _
    unfold f_M_apart
    rw [mman_b (n := n) (by rw [xr_o (by omega), g1.2.1.1]) (by omega) hb]
    simp (disch := omega) only [k0, k1, k2, k3, k4, k5, k6, k7, k8, k9, k10, k12, k20, k30, k31, k40, k99, k160, ite_self, nI_add, nI_leI, nI_ltI, nI_eq, nI_clamp, nI_sub', nI_mul, vpb_n, eq_self, implies_true, grd_t, grd_i, if_pos, if_neg, bI_k, bV_k, bx0, bx1, mh0, mh1, rd_s, rd_o, rd_j, rd_2k, rdL_1k, ↓reduceIte, Bool.false_eq_true, Bool.true_eq_false, Nat.add_eq, Nat.zero_add, Nat.add_zero, not_true_eq_false, not_false_eq_true, u_no10]
    exact Ev.i ⟨rfl, inv_ref h (by omega) (by omega)⟩
  rw [man_g g1.1.1 hi (by omega)]
  simp (disch := omega) only [k0, k1, k2, k3, k4, k5, k6, k7, k8, k9, k10, k12, k20, k30, k31, k40, k99, k160, ite_self, nI_add, nI_leI, nI_ltI, nI_eq, nI_clamp, nI_sub', nI_mul, vpb_n, eq_self, implies_true, grd_t, grd_i, if_pos, if_neg, bI_k, bV_k, bx0, bx1, mh0, mh1, rd_s, rd_o, rd_j, rd_2k, rdL_1k, ↓reduceIte, Bool.false_eq_true, Bool.true_eq_false, Nat.add_eq, Nat.zero_add, Nat.add_zero, not_true_eq_false, not_false_eq_true]
  refine Ev.bI (X_apart g1.1 ok hi) (fun v w1 h1 => ?_)
  obtain ⟨rfl, f1⟩ := h1
  have gb := g1.fq f1.q
  refine Ev.i ?_
  show EI (f_M_apart w1 (nI i)) _
  unfold f_M_apart
  rw [mman_g (n := n) gb.2.1.1 (by omega) hi]
  simp (disch := omega) only [k0, k1, k2, k3, k4, k5, k6, k7, k8, k9, k10, k12, k20, k30, k31, k40, k99, k160, ite_self, nI_add, nI_leI, nI_ltI, nI_eq, nI_clamp, nI_sub', nI_mul, vpb_n, eq_self, implies_true, grd_t, grd_i, if_pos, if_neg, bI_k, bV_k, bx0, bx1, mh0, mh1, rd_s, rd_o, rd_j, rd_2k, rdL_1k, ↓reduceIte, Bool.false_eq_true, Bool.true_eq_false, Nat.add_eq, Nat.zero_add, Nat.add_zero, not_true_eq_false, not_false_eq_true]
  refine EI.mono (M_apart gb.2.1 ok hi) (fun v w2 h2 => ?_)
  obtain ⟨rfl, f2⟩ := h2
  exact ⟨rfl, h.fq (f1.q.tr f2)⟩
