/-! together -/
theorem snV_x {S : Nat → Int32} {x y : Int32} {L : Nat} (h : ∀ p, p < L → bt x p = bt y p) : ∀ (m p : Nat) (a b : Int32) (c : Bool), p + m = L → snV S x m p a b c = snV S y m p a b c := by
  intro m
  induction m with
  | zero => intro p a b c _; rfl
  | succ m ih =>
    intro p a b c hp
    rw [snV, snV, h p (by omega)]
    simp only [ih (p + 1) _ _ _ (by omega)]
theorem snV_S {S S' : Nat → Int32} {x : Int32} {L : Nat} (h : ∀ p, p < L → S p = S' p) : ∀ (m p : Nat) (a b : Int32) (c : Bool), p + m = L → snV S x m p a b c = snV S' x m p a b c := by
  intro m
  induction m with
  | zero => intro p a b c _; rfl
  | succ m ih =>
    intro p a b c hp
    rw [snV, snV, h p (by omega)]
    simp only [ih (p + 1) _ _ _ (by omega)]
theorem senV_x {S : Nat → Int32} {x y : Int32} {L : Nat} (h : ∀ p, p < L → bt x p = bt y p) : senV S L x = senV S L y := snV_x h L 0 _ _ _ (by omega)
theorem senV_S {S S' : Nat → Int32} {x : Int32} {L : Nat} (h : ∀ p, p < L → S p = S' p) : senV S L x = senV S' L x := snV_S h L 0 _ _ _ (by omega)
theorem all_bit {L p : Nat} (hL : L ≤ 30) (hp : p < L) : bt (allV L) p = true := by
  unfold allV
  rw [bt_nI]
  have := (span_bit 0 L p).mpr ⟨by omega, hp, by omega⟩
  simp [this]
  omega
def fiV (S : Nat → Int32) (x : Int32) (p : Nat) : Int32 := if bt x p = true then S p else nI 3
def Sure (S : Nat → Int32) (x : Int32) (L : Nat) : Prop := whV (fiV S x) L = senV S L x ∧ ∀ p, p < L → bt x p = false → ∀ v, v < 3 → whV (upf (fiV S x) p (nI v)) L = senV S L x
theorem up3 {S : Nat → Int32} {x : Int32} {p : Nat} (h : bt x p = false) : upf (fiV S x) p (nI 3) = fiV S x := by
  funext q
  by_cases e : q = p
  · subst e
    rw [upf_s]
    unfold fiV
    rw [if_neg (by rw [h]; decide)]
  · rw [upf_o e]
theorem sure_X {S : Nat → Int32} {x : Int32} {L : Nat} (hL : L ≤ 30) : Sure S x L ↔ ∀ p, p < L → bt x p = false → ∀ v, v < 4 → whV (upf (fiV S x) p (nI v)) L = senV S L x := by
  constructor
  · rintro ⟨h1, h2⟩ p hp hb v hv
    by_cases e : v = 3
    · subst e
      rw [up3 hb]
      exact h1
    · exact h2 p hp hb v (by omega)
  · intro h
    refine ⟨?_, fun p hp hb v hv => h p hp hb v (by omega)⟩
    by_cases q : ∃ p, p < L ∧ bt x p = false
    · obtain ⟨p, hp, hb⟩ := q
      have := h p hp hb 3 (by omega)
      rw [up3 hb] at this
      exact this
    · have hall : ∀ p, p < L → bt x p = true := fun p hp => by
        cases hb : bt x p
        · exact absurd ⟨p, hp, hb⟩ q
        · rfl
      unfold whV
      rw [senV_S (S' := S) (fun p hp => by unfold fiV; rw [if_pos (hall p hp)])]
      exact senV_x (fun p hp => by rw [all_bit hL hp, hall p hp])
theorem X_isSure {w : MW} {n L : Nat} {K A F : Nat → Nat} {M S : Nat → Int32} {x : Int32} (rx : RX 1 w n L K A F M S) (hn : n ≤ 8) (hL : L ≤ 30) :
    EI (f_Cl_isSure w 1 x) (fun v w' => ((v = nI 1 ∧ Sure S x L) ∨ (v = nI 0 ∧ ¬ Sure S x L)) ∧ FX w w') := by
  unfold f_Cl_isSure
  rw [rx.2.1, show f_X_span w (0 : Int32) (nI L) = _ from X_all w hL]
  simp only [bI_k]
  rw [X_senseOf rx (.inl rfl) hL]
  simp only [bI_k]
  have fin : ∀ w1 : MW, FX w w1 → (∀ p, p < L → w1.1 58 p = fiV S x p) → EI (f_Cl_isSure_65 1 FU w1 x (nI L) (allV L) (senV S L x) (nI 0)) (fun v w' => ((v = nI 1 ∧ Sure S x L) ∨ (v = nI 0 ∧ ¬ Sure S x L)) ∧ FX w w') := by
    intro w1 f1 h1
    refine lp (σ := MW) (F := fun m w' p => f_Cl_isSure_65 1 m w' x (nI L) (allV L) (senV S L x) (nI p)) (fun w' p => FX w w' ∧ (∀ q, q < L → w'.1 58 q = fiV S x q) ∧ ∀ q, q < p → bt x q = false → ∀ v, v < 4 → whV (upf (fiV S x) q (nI v)) L = senV S L x) L 0 w1 ⟨f1, h1, fun q hq => by omega⟩ (by omega) (by omega) ?_ ?_
    · intro m w' hi
      obtain ⟨i1, i2, i3⟩ := hi
      show Ev (f_Cl_isSure_65 1 (m + 1) w' x (nI L) (allV L) (senV S L x) (nI L)) _
      rw [f_Cl_isSure_65]
      simp (disch := omega) only [k0, k1, k2, k3, k4, k5, k6, k7, k8, k9, k10, k12, k20, k30, k31, k40, k99, k160, ite_self, nI_add, nI_leI, nI_ltI, nI_eq, nI_clamp, nI_sub', nI_mul, vpb_n, eq_self, implies_true, grd_t, grd_i, if_pos, if_neg, bI_k, bV_k, bx0, bx1, mh0, mh1, rd_s, rd_o, rd_j, rd_2k, rdL_1k, ↓reduceIte, Bool.false_eq_true, Bool.true_eq_false, Nat.add_eq, Nat.zero_add, Nat.add_zero, not_true_eq_false, not_false_eq_true]
      exact Ev.i ⟨.inl ⟨rfl, (sure_X hL).mpr i3⟩, i1⟩
    · intro m w' p _ hp hinv kk
      obtain ⟨i1, i2, i3⟩ := hinv
      show Ev (f_Cl_isSure_65 1 (m + 1) w' x (nI L) (allV L) (senV S L x) (nI p)) _
      rw [f_Cl_isSure_65]
      by_cases hb : bt x p = true
      · simp (disch := omega) only [k0, k1, k2, k3, k4, k5, k6, k7, k8, k9, k10, k12, k20, k30, k31, k40, k99, k160, ite_self, nI_add, nI_leI, nI_ltI, nI_eq, nI_clamp, nI_sub', nI_mul, vpb_n, eq_self, implies_true, grd_t, grd_i, if_pos, if_neg, bI_k, bV_k, bx0, bx1, mh0, mh1, rd_s, rd_o, rd_j, rd_2k, rdL_1k, ↓reduceIte, Bool.false_eq_true, Bool.true_eq_false, Nat.add_eq, Nat.zero_add, Nat.add_zero, not_true_eq_false, not_false_eq_true, hb]
        exact kk w' ⟨i1, i2, fun q hq hb2 => by
          by_cases e : q = p
          · subst e
            rw [hb] at hb2
            cases hb2
          · exact i3 q (by omega) hb2⟩
      · have hb' : bt x p = false := by simpa using hb
        simp (disch := omega) only [k0, k1, k2, k3, k4, k5, k6, k7, k8, k9, k10, k12, k20, k30, k31, k40, k99, k160, ite_self, nI_add, nI_leI, nI_ltI, nI_eq, nI_clamp, nI_sub', nI_mul, vpb_n, eq_self, implies_true, grd_t, grd_i, if_pos, if_neg, bI_k, bV_k, bx0, bx1, mh0, mh1, rd_s, rd_o, rd_j, rd_2k, rdL_1k, ↓reduceIte, Bool.false_eq_true, Bool.true_eq_false, Nat.add_eq, Nat.zero_add, Nat.add_zero, not_true_eq_false, not_false_eq_true, hb']
        refine lp (σ := MW) (F := fun m2 w2 v => f_Cl_isSure_87 1 _ m2 w2 x (nI L) (allV L) (senV S L x) (nI p) (nI v)) (fun w2 v => FX w w2 ∧ (∀ q, q < L → q ≠ p → w2.1 58 q = fiV S x q) ∧ (v = 4 → w2.1 58 p = nI 3) ∧ ∀ u, u < v → whV (upf (fiV S x) p (nI u)) L = senV S L x) 4 0 w' ⟨i1, fun q hq _ => i2 q hq, fun q => by omega, fun u hu => by omega⟩ (by omega) (by omega) ?_ ?_
        · intro m2 w2 hv
          obtain ⟨j1, j2, j3, j4⟩ := hv
          show Ev (f_Cl_isSure_87 1 _ (m2 + 1) w2 x (nI L) (allV L) (senV S L x) (nI p) (nI 4)) _
          rw [f_Cl_isSure_87]
          simp (disch := omega) only [k0, k1, k2, k3, k4, k5, k6, k7, k8, k9, k10, k12, k20, k30, k31, k40, k99, k160, ite_self, nI_add, nI_leI, nI_ltI, nI_eq, nI_clamp, nI_sub', nI_mul, vpb_n, eq_self, implies_true, grd_t, grd_i, if_pos, if_neg, bI_k, bV_k, bx0, bx1, mh0, mh1, rd_s, rd_o, rd_j, rd_2k, rdL_1k, ↓reduceIte, Bool.false_eq_true, Bool.true_eq_false, Nat.add_eq, Nat.zero_add, Nat.add_zero, not_true_eq_false, not_false_eq_true]
          refine kk w2 ⟨j1, fun q hq => ?_, fun q hq hb2 => ?_⟩
          · by_cases e : q = p
            · subst e
              rw [j3 rfl]
              unfold fiV
              rw [if_neg hb]
            · exact j2 q hq e
          · by_cases e : q = p
            · subst e
              exact fun v hv => j4 v hv
            · exact i3 q (by omega) hb2
        · intro m2 w2 v _ hv hinv k2
          obtain ⟨j1, j2, j3, j4⟩ := hinv
          show Ev (f_Cl_isSure_87 1 _ (m2 + 1) w2 x (nI L) (allV L) (senV S L x) (nI p) (nI v)) _
          rw [f_Cl_isSure_87]
          have hT : ∀ q, q < L → (setI w2 58 p (nI v)).1 58 q = upf (fiV S x) p (nI v) q := by
            intro q hq
            by_cases e : q = p
            · subst e
              rw [rd_s, upf_s]
            · rw [rd_j e, upf_o e]
              exact j2 q hq e
          simp (disch := omega) only [k0, k1, k2, k3, k4, k5, k6, k7, k8, k9, k10, k12, k20, k30, k31, k40, k99, k160, ite_self, nI_add, nI_leI, nI_ltI, nI_eq, nI_clamp, nI_sub', nI_mul, vpb_n, eq_self, implies_true, grd_t, grd_i, if_pos, if_neg, bI_k, bV_k, bx0, bx1, mh0, mh1, rd_s, rd_o, rd_j, rd_2k, rdL_1k, ↓reduceIte, Bool.false_eq_true, Bool.true_eq_false, Nat.add_eq, Nat.zero_add, Nat.add_zero, not_true_eq_false, not_false_eq_true]
          rw [X_sense (setI w2 58 p (nI v)) 58 (upf (fiV S x) p (nI v)) L (allV L) hL rfl hT]
          by_cases hq : senV (upf (fiV S x) p (nI v)) L (allV L) = senV S L x
          · simp (disch := omega) only [k0, k1, k2, k3, k4, k5, k6, k7, k8, k9, k10, k12, k20, k30, k31, k40, k99, k160, ite_self, nI_add, nI_leI, nI_ltI, nI_eq, nI_clamp, nI_sub', nI_mul, vpb_n, eq_self, implies_true, grd_t, grd_i, if_pos, if_neg, bI_k, bV_k, bx0, bx1, mh0, mh1, rd_s, rd_o, rd_j, rd_2k, rdL_1k, ↓reduceIte, Bool.false_eq_true, Bool.true_eq_false, Nat.add_eq, Nat.zero_add, Nat.add_zero, not_true_eq_false, not_false_eq_true, hq]
            refine k2 _ ⟨j1.set (by omega), fun q hq e => by rw [rd_j e]; exact j2 q hq e, fun e => by rw [rd_s]; congr 1; omega, fun u hu => ?_⟩
            by_cases e : u = v
            · subst e
              exact hq
            · exact j4 u (by omega)
          · simp (disch := omega) only [k0, k1, k2, k3, k4, k5, k6, k7, k8, k9, k10, k12, k20, k30, k31, k40, k99, k160, ite_self, nI_add, nI_leI, nI_ltI, nI_eq, nI_clamp, nI_sub', nI_mul, vpb_n, eq_self, implies_true, grd_t, grd_i, if_pos, if_neg, bI_k, bV_k, bx0, bx1, mh0, mh1, rd_s, rd_o, rd_j, rd_2k, rdL_1k, ↓reduceIte, Bool.false_eq_true, Bool.true_eq_false, Nat.add_eq, Nat.zero_add, Nat.add_zero, not_true_eq_false, not_false_eq_true, hq]
            exact Ev.i ⟨.inr ⟨rfl, fun hs => hq ((sure_X hL).mp hs p hp hb' v hv)⟩, j1.set (by omega)⟩
  refine lp (σ := MW) (F := fun m w' p => f_Cl_isSure_22 1 m w' x (nI L) (allV L) (senV S L x) (nI p)) (fun w' p => FX w w' ∧ ∀ q, q < p → w'.1 58 q = fiV S x q) L 0 w ⟨FX.rfl w, fun q hq => by omega⟩ (by omega) (by omega) ?_ ?_
  · intro m w' hi
    obtain ⟨i1, i2⟩ := hi
    show Ev (f_Cl_isSure_22 1 (m + 1) w' x (nI L) (allV L) (senV S L x) (nI L)) _
    rw [f_Cl_isSure_22]
    simp (disch := omega) only [k0, k1, k2, k3, k4, k5, k6, k7, k8, k9, k10, k12, k20, k30, k31, k40, k99, k160, ite_self, nI_add, nI_leI, nI_ltI, nI_eq, nI_clamp, nI_sub', nI_mul, vpb_n, eq_self, implies_true, grd_t, grd_i, if_pos, if_neg, bI_k, bV_k, bx0, bx1, mh0, mh1, rd_s, rd_o, rd_j, rd_2k, rdL_1k, ↓reduceIte, Bool.false_eq_true, Bool.true_eq_false, Nat.add_eq, Nat.zero_add, Nat.add_zero, not_true_eq_false, not_false_eq_true]
    exact fin w' i1 i2
  · intro m w' p _ hp hinv kk
    obtain ⟨i1, i2⟩ := hinv
    have rx' := rx.fx hn (by omega) i1
    have es : w'.1 (1 + 10) p = S p := rx'.2.2.2 p hp
    show Ev (f_Cl_isSure_22 1 (m + 1) w' x (nI L) (allV L) (senV S L x) (nI p)) _
    rw [f_Cl_isSure_22]
    by_cases hb : bt x p = true
    · simp (disch := omega) only [k0, k1, k2, k3, k4, k5, k6, k7, k8, k9, k10, k12, k20, k30, k31, k40, k99, k160, ite_self, nI_add, nI_leI, nI_ltI, nI_eq, nI_clamp, nI_sub', nI_mul, vpb_n, eq_self, implies_true, grd_t, grd_i, if_pos, if_neg, bI_k, bV_k, bx0, bx1, mh0, mh1, rd_s, rd_o, rd_j, rd_2k, rdL_1k, ↓reduceIte, Bool.false_eq_true, Bool.true_eq_false, Nat.add_eq, Nat.zero_add, Nat.add_zero, not_true_eq_false, not_false_eq_true, hb, es]
      refine kk _ ⟨i1.set (by omega), fun q hq => ?_⟩
      by_cases e : q = p
      · subst e
        rw [rd_s]
        unfold fiV
        rw [if_pos hb]
      · rw [rd_j e]
        exact i2 q (by omega)
    · have hb' : bt x p = false := by simpa using hb
      simp (disch := omega) only [k0, k1, k2, k3, k4, k5, k6, k7, k8, k9, k10, k12, k20, k30, k31, k40, k99, k160, ite_self, nI_add, nI_leI, nI_ltI, nI_eq, nI_clamp, nI_sub', nI_mul, vpb_n, eq_self, implies_true, grd_t, grd_i, if_pos, if_neg, bI_k, bV_k, bx0, bx1, mh0, mh1, rd_s, rd_o, rd_j, rd_2k, rdL_1k, ↓reduceIte, Bool.false_eq_true, Bool.true_eq_false, Nat.add_eq, Nat.zero_add, Nat.add_zero, not_true_eq_false, not_false_eq_true, hb']
      refine kk _ ⟨i1.set (by omega), fun q hq => ?_⟩
      by_cases e : q = p
      · subst e
        rw [rd_s]
        unfold fiV
        rw [if_neg hb]
      · rw [rd_j e]
        exact i2 q (by omega)
theorem RM.s72 {w : MW} {n L p : Nat} {K A F : Nat → Nat} {M S S' : Nat → Int32} {v : Int32} (h : RM w n L K A F M S) (e : ∀ q, q < L → q ≠ p → S' q = S q) (e2 : S' p = v) : RM (setI w 72 p v) n L K A F M S' := by
  obtain ⟨h1, h2, h3, h4⟩ := h
  refine ⟨by rw [rd_o (by omega)]; exact h1, by rw [rd_o (by omega)]; exact h2, fun l hl => by rw [rd_o (by omega), rd_o (by omega), rd_o (by omega), rd_o (by omega)]; exact h3 l hl, fun q hq => ?_⟩
  by_cases c : q = p
  · subst c
    rw [rd_s]
    exact e2.symm
  · rw [rd_j c, e q hq c]
    exact h4 q hq
theorem RM.cS {w : MW} {n L : Nat} {K A F : Nat → Nat} {M S S' : Nat → Int32} (h : RM w n L K A F M S) (e : ∀ q, q < L → S' q = S q) : RM w n L K A F M S' :=
  ⟨h.1, h.2.1, h.2.2.1, fun q hq => by rw [e q hq]; exact h.2.2.2 q hq⟩
theorem M_isSure {w : MW} {n L : Nat} {K A F : Nat → Nat} {M S : Nat → Int32} {x : Int32} (rm : RM w n L K A F M S) (hL : L ≤ 30) :
    EI (f_M_isSure w x) (fun v w' => ((v = nI 1 ∧ Sure S x L) ∨ (v = nI 0 ∧ ¬ Sure S x L)) ∧ FQ w w') := by
  unfold f_M_isSure
  refine Ev.bV (M_keep (a1 := 76) (by omega) (by omega)) (fun w1 h1 => ?_)
  have fk1 := FK.start h1.1 h1.2.1 h1.2.2
  have rm1 : RM w1 n L K A F M S := rm.key (fun a j q _ => h1.1 a j (by omega))
  rw [M_senseOf rm1 hL]
  simp (disch := omega) only [k0, k1, k2, k3, k4, k5, k6, k7, k8, k9, k10, k12, k20, k30, k31, k40, k99, k160, ite_self, nI_add, nI_leI, nI_ltI, nI_eq, nI_clamp, nI_sub', nI_mul, vpb_n, eq_self, implies_true, grd_t, grd_i, if_pos, if_neg, bI_k, bV_k, bx0, bx1, mh0, mh1, rd_s, rd_o, rd_j, rd_2k, rdL_1k, ↓reduceIte, Bool.false_eq_true, Bool.true_eq_false, Nat.add_eq, Nat.zero_add, Nat.add_zero, not_true_eq_false, not_false_eq_true]
  have fin : ∀ (w2 : MW) (z : Int32), FK w w2 → RM w2 n L K A F M (fiV S x) → ((z = nI 1 ∧ whV (fiV S x) L = senV S L x) ∨ (z = nI 0 ∧ ¬ Sure S x L)) → EI (f_M_isSure_62 FU w2 x (senV S L x) z (nI 0)) (fun v w' => ((v = nI 1 ∧ Sure S x L) ∨ (v = nI 0 ∧ ¬ Sure S x L)) ∧ FQ w w') := by
    intro w2 z f2 rm2 hz
    refine lp (σ := MW × Int32) (F := fun m s p => f_M_isSure_62 m s.1 x (senV S L x) s.2 (nI p)) (fun s p => FK w s.1 ∧ RM s.1 n L K A F M (fiV S x) ∧ ((s.2 = nI 1 ∧ whV (fiV S x) L = senV S L x ∧ ∀ q, q < p → bt x q = false → ∀ v, v < 3 → whV (upf (fiV S x) q (nI v)) L = senV S L x) ∨ (s.2 = nI 0 ∧ ¬ Sure S x L))) L 0 (w2, z) ⟨f2, rm2, hz.imp (fun q => ⟨q.1, q.2, fun _ hq => by omega⟩) id⟩ (by omega) (by omega) ?_ ?_
    · intro m s hi
      obtain ⟨w3, z3⟩ := s
      obtain ⟨i1, i2, i3⟩ := hi
      replace i2 : RM w3 n L K A F M (fiV S x) := i2
      show Ev (f_M_isSure_62 (m + 1) w3 x (senV S L x) z3 (nI L)) _
      rw [f_M_isSure_62, i2.2.1]
      simp (disch := omega) only [k0, k1, k2, k3, k4, k5, k6, k7, k8, k9, k10, k12, k20, k30, k31, k40, k99, k160, ite_self, nI_add, nI_leI, nI_ltI, nI_eq, nI_clamp, nI_sub', nI_mul, vpb_n, eq_self, implies_true, grd_t, grd_i, if_pos, if_neg, bI_k, bV_k, bx0, bx1, mh0, mh1, rd_s, rd_o, rd_j, rd_2k, rdL_1k, ↓reduceIte, Bool.false_eq_true, Bool.true_eq_false, Nat.add_eq, Nat.zero_add, Nat.add_zero, not_true_eq_false, not_false_eq_true]
      refine Ev.bV (M_again (a1 := 76) (by omega) (by omega)) (fun w4 h4 => ?_)
      have g4 := (i1.ag h4).1
      rcases i3 with ⟨q1, q2, q3⟩ | ⟨q1, q2⟩
      · replace q1 : z3 = nI 1 := q1
        subst q1
        refine Ev.grd (.inr rfl) ?_
        exact Ev.i ⟨.inl ⟨rfl, q2, q3⟩, g4⟩
      · replace q1 : z3 = nI 0 := q1
        subst q1
        refine Ev.grd (.inl rfl) ?_
        exact Ev.i ⟨.inr ⟨rfl, q2⟩, g4⟩
    · intro m s p _ hp hinv kk
      obtain ⟨w3, z3⟩ := s
      obtain ⟨i1, i2, i3⟩ := hinv
      replace i1 : FK w w3 := i1
      replace i2 : RM w3 n L K A F M (fiV S x) := i2
      show Ev (f_M_isSure_62 (m + 1) w3 x (senV S L x) z3 (nI p)) _
      rw [f_M_isSure_62, i2.2.1]
      simp (disch := omega) only [k0, k1, k2, k3, k4, k5, k6, k7, k8, k9, k10, k12, k20, k30, k31, k40, k99, k160, ite_self, nI_add, nI_leI, nI_ltI, nI_eq, nI_clamp, nI_sub', nI_mul, vpb_n, eq_self, implies_true, grd_t, grd_i, if_pos, if_neg, bI_k, bV_k, bx0, bx1, mh0, mh1, rd_s, rd_o, rd_j, rd_2k, rdL_1k, ↓reduceIte, Bool.false_eq_true, Bool.true_eq_false, Nat.add_eq, Nat.zero_add, Nat.add_zero, not_true_eq_false, not_false_eq_true]
      by_cases hb : bt x p = true
      · -- a place that is heard: the inner loop ends at once
        refine lp (σ := Unit) (F := fun m2 _ v => f_M_isSure_74 _ m2 w3 x (senV S L x) z3 (nI p) (nI v)) (fun _ v => v = 0) 3 0 () rfl (by omega) (by omega) ?_ ?_
        · intro m2 _ hv
          omega
        · intro m2 _ v _ hv hv0 k2
          subst hv0
          show Ev (f_M_isSure_74 _ (m2 + 1) w3 x (senV S L x) z3 (nI p) (nI 0)) _
          rw [f_M_isSure_74]
          simp (disch := omega) only [k0, k1, k2, k3, k4, k5, k6, k7, k8, k9, k10, k12, k20, k30, k31, k40, k99, k160, ite_self, nI_add, nI_leI, nI_ltI, nI_eq, nI_clamp, nI_sub', nI_mul, vpb_n, eq_self, implies_true, grd_t, grd_i, if_pos, if_neg, bI_k, bV_k, bx0, bx1, mh0, mh1, rd_s, rd_o, rd_j, rd_2k, rdL_1k, ↓reduceIte, Bool.false_eq_true, Bool.true_eq_false, Nat.add_eq, Nat.zero_add, Nat.add_zero, not_true_eq_false, not_false_eq_true, hb]
          refine kk (w3, z3) ⟨i1, i2, i3.imp (fun q => ⟨q.1, q.2.1, fun r hr hb2 => ?_⟩) id⟩
          by_cases e : r = p
          · subst e
            rw [hb] at hb2
            cases hb2
          · exact q.2.2 r (by omega) hb2
      · have hb' : bt x p = false := by simpa using hb
        refine lp (σ := MW × Int32) (F := fun m2 s v => f_M_isSure_74 _ m2 s.1 x (senV S L x) s.2 (nI p) (nI v)) (fun s v => FK w s.1 ∧ RM s.1 n L K A F M (fiV S x) ∧ ((s.2 = nI 1 ∧ whV (fiV S x) L = senV S L x ∧ (∀ q, q < p → bt x q = false → ∀ v, v < 3 → whV (upf (fiV S x) q (nI v)) L = senV S L x) ∧ ∀ u, u < v → whV (upf (fiV S x) p (nI u)) L = senV S L x) ∨ (s.2 = nI 0 ∧ ¬ Sure S x L))) 3 0 (w3, z3) ⟨i1, i2, i3.imp (fun q => ⟨q.1, q.2.1, q.2.2, fun _ hu => by omega⟩) id⟩ (by omega) (by omega) ?_ ?_
        · intro m2 s hv
          obtain ⟨w4, z4⟩ := s
          obtain ⟨j1, j2, j3⟩ := hv
          show Ev (f_M_isSure_74 _ (m2 + 1) w4 x (senV S L x) z4 (nI p) (nI 3)) _
          rw [f_M_isSure_74]
          simp (disch := omega) only [k0, k1, k2, k3, k4, k5, k6, k7, k8, k9, k10, k12, k20, k30, k31, k40, k99, k160, ite_self, nI_add, nI_leI, nI_ltI, nI_eq, nI_clamp, nI_sub', nI_mul, vpb_n, eq_self, implies_true, grd_t, grd_i, if_pos, if_neg, bI_k, bV_k, bx0, bx1, mh0, mh1, rd_s, rd_o, rd_j, rd_2k, rdL_1k, ↓reduceIte, Bool.false_eq_true, Bool.true_eq_false, Nat.add_eq, Nat.zero_add, Nat.add_zero, not_true_eq_false, not_false_eq_true]
          refine kk (w4, z4) ⟨j1, j2, j3.imp (fun q => ⟨q.1, q.2.1, fun r hr hb2 => ?_⟩) id⟩
          by_cases e : r = p
          · subst e
            exact q.2.2.2
          · exact q.2.2.1 r (by omega) hb2
        · intro m2 s v _ hv hinv k2
          obtain ⟨w4, z4⟩ := s
          obtain ⟨j1, j2, j3⟩ := hinv
          replace j1 : FK w w4 := j1
          replace j2 : RM w4 n L K A F M (fiV S x) := j2
          show Ev (f_M_isSure_74 _ (m2 + 1) w4 x (senV S L x) z4 (nI p) (nI v)) _
          rw [f_M_isSure_74]
          have rm5 : RM (setI w4 72 p (nI v)) n L K A F M (upf (fiV S x) p (nI v)) := j2.s72 (fun q hq e => upf_o e) upf_s
          simp (disch := omega) only [k0, k1, k2, k3, k4, k5, k6, k7, k8, k9, k10, k12, k20, k30, k31, k40, k99, k160, ite_self, nI_add, nI_leI, nI_ltI, nI_eq, nI_clamp, nI_sub', nI_mul, vpb_n, eq_self, implies_true, grd_t, grd_i, if_pos, if_neg, bI_k, bV_k, bx0, bx1, mh0, mh1, rd_s, rd_o, rd_j, rd_2k, rdL_1k, ↓reduceIte, Bool.false_eq_true, Bool.true_eq_false, Nat.add_eq, Nat.zero_add, Nat.add_zero, not_true_eq_false, not_false_eq_true, hb']
          rw [M_wholeOf rm5 hL]
          have rm6 : RM (setI (setI w4 72 p (nI v)) 72 p (nI 3)) n L K A F M (fiV S x) := rm5.s72 (fun q hq e => (upf_o e).symm) (by unfold fiV; rw [if_neg hb])
          have fk6 : FK w (setI (setI w4 72 p (nI v)) 72 p (nI 3)) := (j1.set (.inr (.inl (by omega)))).set (.inr (.inl (by omega)))
          by_cases hq : whV (upf (fiV S x) p (nI v)) L = senV S L x
          · simp (disch := omega) only [k0, k1, k2, k3, k4, k5, k6, k7, k8, k9, k10, k12, k20, k30, k31, k40, k99, k160, ite_self, nI_add, nI_leI, nI_ltI, nI_eq, nI_clamp, nI_sub', nI_mul, vpb_n, eq_self, implies_true, grd_t, grd_i, if_pos, if_neg, bI_k, bV_k, bx0, bx1, mh0, mh1, rd_s, rd_o, rd_j, rd_2k, rdL_1k, ↓reduceIte, Bool.false_eq_true, Bool.true_eq_false, Nat.add_eq, Nat.zero_add, Nat.add_zero, not_true_eq_false, not_false_eq_true, hq]
            refine k2 (_, z4) ⟨fk6, rm6, j3.imp (fun q => ⟨q.1, q.2.1, q.2.2.1, fun u hu => ?_⟩) id⟩
            by_cases e : u = v
            · subst e
              exact hq
            · exact q.2.2.2 u (by omega)
          · simp (disch := omega) only [k0, k1, k2, k3, k4, k5, k6, k7, k8, k9, k10, k12, k20, k30, k31, k40, k99, k160, ite_self, nI_add, nI_leI, nI_ltI, nI_eq, nI_clamp, nI_sub', nI_mul, vpb_n, eq_self, implies_true, grd_t, grd_i, if_pos, if_neg, bI_k, bV_k, bx0, bx1, mh0, mh1, rd_s, rd_o, rd_j, rd_2k, rdL_1k, ↓reduceIte, Bool.false_eq_true, Bool.true_eq_false, Nat.add_eq, Nat.zero_add, Nat.add_zero, not_true_eq_false, not_false_eq_true, hq]
            exact k2 (_, nI 0) ⟨fk6, rm6, .inr ⟨rfl, fun hs => hq (hs.2 p hp hb' v hv)⟩⟩
  refine lp (σ := MW) (F := fun m w' p => f_M_isSure_16 m w' x (senV S L x) (nI p)) (fun w' p => FK w w' ∧ RM w' n L K A F M (mixV (fiV S x) S p)) L 0 w1 ⟨fk1, rm1.cS (fun q hq => mix_g (by omega))⟩ (by omega) (by omega) ?_ ?_
  · intro m w' hi
    obtain ⟨i1, i2⟩ := hi
    have rm2 : RM w' n L K A F M (fiV S x) := i2.cS (fun q hq => (mix_l hq).symm)
    show Ev (f_M_isSure_16 (m + 1) w' x (senV S L x) (nI L)) _
    rw [f_M_isSure_16, i2.2.1, M_wholeOf rm2 hL]
    simp (disch := omega) only [k0, k1, k2, k3, k4, k5, k6, k7, k8, k9, k10, k12, k20, k30, k31, k40, k99, k160, ite_self, nI_add, nI_leI, nI_ltI, nI_eq, nI_clamp, nI_sub', nI_mul, vpb_n, eq_self, implies_true, grd_t, grd_i, if_pos, if_neg, bI_k, bV_k, bx0, bx1, mh0, mh1, rd_s, rd_o, rd_j, rd_2k, rdL_1k, ↓reduceIte, Bool.false_eq_true, Bool.true_eq_false, Nat.add_eq, Nat.zero_add, Nat.add_zero, not_true_eq_false, not_false_eq_true]
    by_cases hq : whV (fiV S x) L = senV S L x
    · simp (disch := omega) only [k0, k1, k2, k3, k4, k5, k6, k7, k8, k9, k10, k12, k20, k30, k31, k40, k99, k160, ite_self, nI_add, nI_leI, nI_ltI, nI_eq, nI_clamp, nI_sub', nI_mul, vpb_n, eq_self, implies_true, grd_t, grd_i, if_pos, if_neg, bI_k, bV_k, bx0, bx1, mh0, mh1, rd_s, rd_o, rd_j, rd_2k, rdL_1k, ↓reduceIte, Bool.false_eq_true, Bool.true_eq_false, Nat.add_eq, Nat.zero_add, Nat.add_zero, not_true_eq_false, not_false_eq_true, hq]
      exact fin w' _ i1 rm2 (.inl ⟨rfl, hq⟩)
    · simp (disch := omega) only [k0, k1, k2, k3, k4, k5, k6, k7, k8, k9, k10, k12, k20, k30, k31, k40, k99, k160, ite_self, nI_add, nI_leI, nI_ltI, nI_eq, nI_clamp, nI_sub', nI_mul, vpb_n, eq_self, implies_true, grd_t, grd_i, if_pos, if_neg, bI_k, bV_k, bx0, bx1, mh0, mh1, rd_s, rd_o, rd_j, rd_2k, rdL_1k, ↓reduceIte, Bool.false_eq_true, Bool.true_eq_false, Nat.add_eq, Nat.zero_add, Nat.add_zero, not_true_eq_false, not_false_eq_true, hq]
      exact fin w' _ i1 rm2 (.inr ⟨rfl, fun hs => hq hs.1⟩)
  · intro m w' p _ hp hinv kk
    obtain ⟨i1, i2⟩ := hinv
    show Ev (f_M_isSure_16 (m + 1) w' x (senV S L x) (nI p)) _
    rw [f_M_isSure_16, i2.2.1]
    by_cases hb : bt x p = true
    · simp (disch := omega) only [k0, k1, k2, k3, k4, k5, k6, k7, k8, k9, k10, k12, k20, k30, k31, k40, k99, k160, ite_self, nI_add, nI_leI, nI_ltI, nI_eq, nI_clamp, nI_sub', nI_mul, vpb_n, eq_self, implies_true, grd_t, grd_i, if_pos, if_neg, bI_k, bV_k, bx0, bx1, mh0, mh1, rd_s, rd_o, rd_j, rd_2k, rdL_1k, ↓reduceIte, Bool.false_eq_true, Bool.true_eq_false, Nat.add_eq, Nat.zero_add, Nat.add_zero, not_true_eq_false, not_false_eq_true, hb]
      refine kk w' ⟨i1, i2.cS (fun q hq => ?_)⟩
      by_cases e : q = p
      · subst e
        rw [mix_l (by omega), mix_g (by omega)]
        unfold fiV
        rw [if_pos hb]
      · exact mix_s e
    · have hb' : bt x p = false := by simpa using hb
      simp (disch := omega) only [k0, k1, k2, k3, k4, k5, k6, k7, k8, k9, k10, k12, k20, k30, k31, k40, k99, k160, ite_self, nI_add, nI_leI, nI_ltI, nI_eq, nI_clamp, nI_sub', nI_mul, vpb_n, eq_self, implies_true, grd_t, grd_i, if_pos, if_neg, bI_k, bV_k, bx0, bx1, mh0, mh1, rd_s, rd_o, rd_j, rd_2k, rdL_1k, ↓reduceIte, Bool.false_eq_true, Bool.true_eq_false, Nat.add_eq, Nat.zero_add, Nat.add_zero, not_true_eq_false, not_false_eq_true, hb']
      refine kk _ ⟨i1.set (.inr (.inl (by omega))), i2.s72 (fun q hq e => mix_s e) ?_⟩
      rw [mix_l (by omega)]
      unfold fiV
      rw [if_neg hb]
theorem sim_together (x1 x2 : Int32) : SIM (fun w => f_X_together w x1 x2) (fun w => f_M_together w x1 x2) := by
  intro sc N w h
  have h0 := h
  obtain ⟨⟨n, L, K, A, F, M, S, g1, g2⟩, g3, g4, g5, g6⟩ := h0
  have hn := g1.2.2.1.1
  have hL := g1.2.2.1.2.1
  have ok := g1.2.2.1
  show EI (f_X_together w x1 x2) (fun v w1 => EI (f_M_together w1 x1 x2) (fun v' w2 => v' = v ∧ Inv sc N w2))
  unfold f_X_together
  rcases tri x2 3 (by omega) with hb | ⟨t, ht, rfl⟩
  · have r5 : EI (f_M_together (u_X_refuse w (-nI 5)) x1 x2) (fun v' w2 => v' = -nI 5 - nI 10 ∧ Inv sc N w2) := by
      unfold f_M_together
      have e3 : v_M_within (u_X_refuse w (-nI 5)) x2 (0 : Int32) (2 : Int32) = nI 0 := wi_b (n := 3) (by omega) (by decide) hb
      rw [e3]
      simp (disch := omega) only [k0, k1, k2, k3, k4, k5, k6, k7, k8, k9, k10, k12, k20, k30, k31, k40, k99, k160, ite_self, nI_add, nI_leI, nI_ltI, nI_eq, nI_clamp, nI_sub', nI_mul, vpb_n, eq_self, implies_true, grd_t, grd_i, if_pos, if_neg, bI_k, bV_k, bx0, bx1, mh0, mh1, rd_s, rd_o, rd_j, rd_2k, rdL_1k, ↓reduceIte, Bool.false_eq_true, Bool.true_eq_false, Nat.add_eq, Nat.zero_add, Nat.add_zero, not_true_eq_false, not_false_eq_true, u_no10, v_no10]
      exact Ev.i ⟨rfl, inv_ref h (by omega) (by omega)⟩
    rcases hb with q | q
    · have q' : x2 < nI 0 := q
      simp (disch := omega) only [k0, k1, k2, k3, k4, k5, k6, k7, k8, k9, k10, k12, k20, k30, k31, k40, k99, k160, ite_self, nI_add, nI_leI, nI_ltI, nI_eq, nI_clamp, nI_sub', nI_mul, vpb_n, eq_self, implies_true, grd_t, grd_i, if_pos, if_neg, bI_k, bV_k, bx0, bx1, mh0, mh1, rd_s, rd_o, rd_j, rd_2k, rdL_1k, ↓reduceIte, Bool.false_eq_true, Bool.true_eq_false, Nat.add_eq, Nat.zero_add, Nat.add_zero, not_true_eq_false, not_false_eq_true, q', u_refF, v_refF]
      exact Ev.i r5
    · have q3 : nI 2 < x2 := bad_lt (n := 2) (by omega) q
      have q4 : ¬ x2 ≤ nI 2 := Int32.not_le.mpr q3
      by_cases q0 : x2 < nI 0
      · simp (disch := omega) only [k0, k1, k2, k3, k4, k5, k6, k7, k8, k9, k10, k12, k20, k30, k31, k40, k99, k160, ite_self, nI_add, nI_leI, nI_ltI, nI_eq, nI_clamp, nI_sub', nI_mul, vpb_n, eq_self, implies_true, grd_t, grd_i, if_pos, if_neg, bI_k, bV_k, bx0, bx1, mh0, mh1, rd_s, rd_o, rd_j, rd_2k, rdL_1k, ↓reduceIte, Bool.false_eq_true, Bool.true_eq_false, Nat.add_eq, Nat.zero_add, Nat.add_zero, not_true_eq_false, not_false_eq_true, q0, u_refF, v_refF]
        exact Ev.i r5
      · simp (disch := omega) only [k0, k1, k2, k3, k4, k5, k6, k7, k8, k9, k10, k12, k20, k30, k31, k40, k99, k160, ite_self, nI_add, nI_leI, nI_ltI, nI_eq, nI_clamp, nI_sub', nI_mul, vpb_n, eq_self, implies_true, grd_t, grd_i, if_pos, if_neg, bI_k, bV_k, bx0, bx1, mh0, mh1, rd_s, rd_o, rd_j, rd_2k, rdL_1k, ↓reduceIte, Bool.false_eq_true, Bool.true_eq_false, Nat.add_eq, Nat.zero_add, Nat.add_zero, not_true_eq_false, not_false_eq_true, q0, q3, q4, u_refF, v_refF]
        exact Ev.i r5
  have t0 : ¬ nI t < nI 0 := nI_pos (by omega)
  have e3 : ∀ w', v_M_within w' (nI t) (0 : Int32) (2 : Int32) = nI 1 := fun w' => wi_g (n := 3) (by omega) (by decide) ht
  rcases Classical.em (∃ m, m < 2 ^ n ∧ x1 = nI m) with hx | hx
  · have e1 := (X_isSet hn g1.1.1).1 hx
    have hbit : ∀ j, n ≤ j → bt x1 j = false := by
      obtain ⟨m, hm, rfl⟩ := hx
      exact set_bits hm
    simp (disch := omega) only [k0, k1, k2, k3, k4, k5, k6, k7, k8, k9, k10, k12, k20, k30, k31, k40, k99, k160, ite_self, nI_add, nI_leI, nI_ltI, nI_eq, nI_clamp, nI_sub', nI_mul, vpb_n, eq_self, implies_true, grd_t, grd_i, if_pos, if_neg, bI_k, bV_k, bx0, bx1, mh0, mh1, rd_s, rd_o, rd_j, rd_2k, rdL_1k, ↓reduceIte, Bool.false_eq_true, Bool.true_eq_false, Nat.add_eq, Nat.zero_add, Nat.add_zero, not_true_eq_false, not_false_eq_true, t0, e1]
    refine Ev.bI (P := fun v w' => v = anyV (hs K A F L) x1 n ∧ FX w w') ?_ (fun v w1 h1 => ?_)
    · unfold f_Cl_placesHeardBy
      refine Ev.bV (X_listen g1.1 ok) (fun w1 h1 => ?_)
      rw [X_heardByAny hn hbit h1.2.1]
      exact Ev.i ⟨rfl, h1.1⟩
    obtain ⟨rfl, f1⟩ := h1
    have gb := g1.fq f1.q
    have mset := fun w' (e : w'.1 62 3 = nI n) => (M_isSet (w := w') (x := x1) hn e).1 hx
    rcases (show t = 0 ∨ t = 1 ∨ t = 2 by omega) with rfl | rfl | rfl
    · simp (disch := omega) only [k0, k1, k2, k3, k4, k5, k6, k7, k8, k9, k10, k12, k20, k30, k31, k40, k99, k160, ite_self, nI_add, nI_leI, nI_ltI, nI_eq, nI_clamp, nI_sub', nI_mul, vpb_n, eq_self, implies_true, grd_t, grd_i, if_pos, if_neg, bI_k, bV_k, bx0, bx1, mh0, mh1, rd_s, rd_o, rd_j, rd_2k, rdL_1k, ↓reduceIte, Bool.false_eq_true, Bool.true_eq_false, Nat.add_eq, Nat.zero_add, Nat.add_zero, not_true_eq_false, not_false_eq_true]
      rw [X_senseOf gb.1 (.inl rfl) hL]
      refine Ev.i ?_
      unfold f_M_together
      rw [e3, mset w1 gb.2.1.1]
      simp (disch := omega) only [k0, k1, k2, k3, k4, k5, k6, k7, k8, k9, k10, k12, k20, k30, k31, k40, k99, k160, ite_self, nI_add, nI_leI, nI_ltI, nI_eq, nI_clamp, nI_sub', nI_mul, vpb_n, eq_self, implies_true, grd_t, grd_i, if_pos, if_neg, bI_k, bV_k, bx0, bx1, mh0, mh1, rd_s, rd_o, rd_j, rd_2k, rdL_1k, ↓reduceIte, Bool.false_eq_true, Bool.true_eq_false, Nat.add_eq, Nat.zero_add, Nat.add_zero, not_true_eq_false, not_false_eq_true]
      rw [M_heardBy gb.2.1 ok]
      simp (disch := omega) only [k0, k1, k2, k3, k4, k5, k6, k7, k8, k9, k10, k12, k20, k30, k31, k40, k99, k160, ite_self, nI_add, nI_leI, nI_ltI, nI_eq, nI_clamp, nI_sub', nI_mul, vpb_n, eq_self, implies_true, grd_t, grd_i, if_pos, if_neg, bI_k, bV_k, bx0, bx1, mh0, mh1, rd_s, rd_o, rd_j, rd_2k, rdL_1k, ↓reduceIte, Bool.false_eq_true, Bool.true_eq_false, Nat.add_eq, Nat.zero_add, Nat.add_zero, not_true_eq_false, not_false_eq_true]
      rw [M_senseOf gb.2.1 hL]
      exact Ev.i ⟨rfl, h.fq f1.q⟩
    · rw [bk]
      have c3 := gb.1.2.1
      simp (disch := omega) only [k0, k1, k2, k3, k4, k5, k6, k7, k8, k9, k10, k12, k20, k30, k31, k40, k99, k160, ite_self, nI_add, nI_leI, nI_ltI, nI_eq, nI_clamp, nI_sub', nI_mul, vpb_n, eq_self, implies_true, grd_t, grd_i, if_pos, if_neg, bI_k, bV_k, bx0, bx1, mh0, mh1, rd_s, rd_o, rd_j, rd_2k, rdL_1k, ↓reduceIte, Bool.false_eq_true, Bool.true_eq_false, Nat.add_eq, Nat.zero_add, Nat.add_zero, not_true_eq_false, not_false_eq_true, c3]
      refine Ev.i ?_
      unfold f_M_together
      rw [e3, mset w1 gb.2.1.1]
      simp (disch := omega) only [k0, k1, k2, k3, k4, k5, k6, k7, k8, k9, k10, k12, k20, k30, k31, k40, k99, k160, ite_self, nI_add, nI_leI, nI_ltI, nI_eq, nI_clamp, nI_sub', nI_mul, vpb_n, eq_self, implies_true, grd_t, grd_i, if_pos, if_neg, bI_k, bV_k, bx0, bx1, mh0, mh1, rd_s, rd_o, rd_j, rd_2k, rdL_1k, ↓reduceIte, Bool.false_eq_true, Bool.true_eq_false, Nat.add_eq, Nat.zero_add, Nat.add_zero, not_true_eq_false, not_false_eq_true]
      rw [M_heardBy gb.2.1 ok]
      simp (disch := omega) only [k0, k1, k2, k3, k4, k5, k6, k7, k8, k9, k10, k12, k20, k30, k31, k40, k99, k160, ite_self, nI_add, nI_leI, nI_ltI, nI_eq, nI_clamp, nI_sub', nI_mul, vpb_n, eq_self, implies_true, grd_t, grd_i, if_pos, if_neg, bI_k, bV_k, bx0, bx1, mh0, mh1, rd_s, rd_o, rd_j, rd_2k, rdL_1k, ↓reduceIte, Bool.false_eq_true, Bool.true_eq_false, Nat.add_eq, Nat.zero_add, Nat.add_zero, not_true_eq_false, not_false_eq_true]
      rw [bk]
      have c10 := gb.2.1.2.1
      simp (disch := omega) only [k0, k1, k2, k3, k4, k5, k6, k7, k8, k9, k10, k12, k20, k30, k31, k40, k99, k160, ite_self, nI_add, nI_leI, nI_ltI, nI_eq, nI_clamp, nI_sub', nI_mul, vpb_n, eq_self, implies_true, grd_t, grd_i, if_pos, if_neg, bI_k, bV_k, bx0, bx1, mh0, mh1, rd_s, rd_o, rd_j, rd_2k, rdL_1k, ↓reduceIte, Bool.false_eq_true, Bool.true_eq_false, Nat.add_eq, Nat.zero_add, Nat.add_zero, not_true_eq_false, not_false_eq_true, c10]
      exact Ev.i ⟨rfl, h.fq f1.q⟩
    · simp (disch := omega) only [k0, k1, k2, k3, k4, k5, k6, k7, k8, k9, k10, k12, k20, k30, k31, k40, k99, k160, ite_self, nI_add, nI_leI, nI_ltI, nI_eq, nI_clamp, nI_sub', nI_mul, vpb_n, eq_self, implies_true, grd_t, grd_i, if_pos, if_neg, bI_k, bV_k, bx0, bx1, mh0, mh1, rd_s, rd_o, rd_j, rd_2k, rdL_1k, ↓reduceIte, Bool.false_eq_true, Bool.true_eq_false, Nat.add_eq, Nat.zero_add, Nat.add_zero, not_true_eq_false, not_false_eq_true]
      refine Ev.bI (X_isSure gb.1 hn hL) (fun v w2 h2 => ?_)
      obtain ⟨hv, f2⟩ := h2
      have gc := gb.fq f2.q
      have mm : EI (f_M_together w2 x1 (nI 2)) (fun v' w3 => v' = v ∧ Inv sc N w3) := by
        unfold f_M_together
        rw [e3, mset w2 gc.2.1.1]
        simp (disch := omega) only [k0, k1, k2, k3, k4, k5, k6, k7, k8, k9, k10, k12, k20, k30, k31, k40, k99, k160, ite_self, nI_add, nI_leI, nI_ltI, nI_eq, nI_clamp, nI_sub', nI_mul, vpb_n, eq_self, implies_true, grd_t, grd_i, if_pos, if_neg, bI_k, bV_k, bx0, bx1, mh0, mh1, rd_s, rd_o, rd_j, rd_2k, rdL_1k, ↓reduceIte, Bool.false_eq_true, Bool.true_eq_false, Nat.add_eq, Nat.zero_add, Nat.add_zero, not_true_eq_false, not_false_eq_true]
        rw [M_heardBy gc.2.1 ok]
        simp (disch := omega) only [k0, k1, k2, k3, k4, k5, k6, k7, k8, k9, k10, k12, k20, k30, k31, k40, k99, k160, ite_self, nI_add, nI_leI, nI_ltI, nI_eq, nI_clamp, nI_sub', nI_mul, vpb_n, eq_self, implies_true, grd_t, grd_i, if_pos, if_neg, bI_k, bV_k, bx0, bx1, mh0, mh1, rd_s, rd_o, rd_j, rd_2k, rdL_1k, ↓reduceIte, Bool.false_eq_true, Bool.true_eq_false, Nat.add_eq, Nat.zero_add, Nat.add_zero, not_true_eq_false, not_false_eq_true]
        refine Ev.bI (M_isSure gc.2.1 hL) (fun v' w3 h3 => ?_)
        obtain ⟨hv', f3⟩ := h3
        have inv3 := h.fq ((f1.q.tr f2.q).tr f3)
        rcases hv with ⟨rfl, q1⟩ | ⟨rfl, q1⟩
        · rcases hv' with ⟨rfl, q2⟩ | ⟨rfl, q2⟩
          · simp (disch := omega) only [k0, k1, k2, k3, k4, k5, k6, k7, k8, k9, k10, k12, k20, k30, k31, k40, k99, k160, ite_self, nI_add, nI_leI, nI_ltI, nI_eq, nI_clamp, nI_sub', nI_mul, vpb_n, eq_self, implies_true, grd_t, grd_i, if_pos, if_neg, bI_k, bV_k, bx0, bx1, mh0, mh1, rd_s, rd_o, rd_j, rd_2k, rdL_1k, ↓reduceIte, Bool.false_eq_true, Bool.true_eq_false, Nat.add_eq, Nat.zero_add, Nat.add_zero, not_true_eq_false, not_false_eq_true]
            exact Ev.i ⟨rfl, inv3⟩
          · exact absurd q1 q2
        · rcases hv' with ⟨rfl, q2⟩ | ⟨rfl, q2⟩
          · exact absurd q2 q1
          · simp (disch := omega) only [k0, k1, k2, k3, k4, k5, k6, k7, k8, k9, k10, k12, k20, k30, k31, k40, k99, k160, ite_self, nI_add, nI_leI, nI_ltI, nI_eq, nI_clamp, nI_sub', nI_mul, vpb_n, eq_self, implies_true, grd_t, grd_i, if_pos, if_neg, bI_k, bV_k, bx0, bx1, mh0, mh1, rd_s, rd_o, rd_j, rd_2k, rdL_1k, ↓reduceIte, Bool.false_eq_true, Bool.true_eq_false, Nat.add_eq, Nat.zero_add, Nat.add_zero, not_true_eq_false, not_false_eq_true]
            exact Ev.i ⟨rfl, inv3⟩
      rcases hv with ⟨rfl, q1⟩ | ⟨rfl, q1⟩
      · simp (disch := omega) only [k0, k1, k2, k3, k4, k5, k6, k7, k8, k9, k10, k12, k20, k30, k31, k40, k99, k160, ite_self, nI_add, nI_leI, nI_ltI, nI_eq, nI_clamp, nI_sub', nI_mul, vpb_n, eq_self, implies_true, grd_t, grd_i, if_pos, if_neg, bI_k, bV_k, bx0, bx1, mh0, mh1, rd_s, rd_o, rd_j, rd_2k, rdL_1k, ↓reduceIte, Bool.false_eq_true, Bool.true_eq_false, Nat.add_eq, Nat.zero_add, Nat.add_zero, not_true_eq_false, not_false_eq_true]
        exact Ev.i mm
      · simp (disch := omega) only [k0, k1, k2, k3, k4, k5, k6, k7, k8, k9, k10, k12, k20, k30, k31, k40, k99, k160, ite_self, nI_add, nI_leI, nI_ltI, nI_eq, nI_clamp, nI_sub', nI_mul, vpb_n, eq_self, implies_true, grd_t, grd_i, if_pos, if_neg, bI_k, bV_k, bx0, bx1, mh0, mh1, rd_s, rd_o, rd_j, rd_2k, rdL_1k, ↓reduceIte, Bool.false_eq_true, Bool.true_eq_false, Nat.add_eq, Nat.zero_add, Nat.add_zero, not_true_eq_false, not_false_eq_true]
        exact Ev.i mm
  · have e1 := (X_isSet hn g1.1.1).2 hx
    simp (disch := omega) only [k0, k1, k2, k3, k4, k5, k6, k7, k8, k9, k10, k12, k20, k30, k31, k40, k99, k160, ite_self, nI_add, nI_leI, nI_ltI, nI_eq, nI_clamp, nI_sub', nI_mul, vpb_n, eq_self, implies_true, grd_t, grd_i, if_pos, if_neg, bI_k, bV_k, bx0, bx1, mh0, mh1, rd_s, rd_o, rd_j, rd_2k, rdL_1k, ↓reduceIte, Bool.false_eq_true, Bool.true_eq_false, Nat.add_eq, Nat.zero_add, Nat.add_zero, not_true_eq_false, not_false_eq_true, t0, e1, u_refF, v_refF]
    refine Ev.i ?_
    unfold f_M_together
    rw [e3, (M_isSet hn (by rw [xr_o (by omega), g1.2.1.1])).2 hx]
    simp (disch := omega) only [k0, k1, k2, k3, k4, k5, k6, k7, k8, k9, k10, k12, k20, k30, k31, k40, k99, k160, ite_self, nI_add, nI_leI, nI_ltI, nI_eq, nI_clamp, nI_sub', nI_mul, vpb_n, eq_self, implies_true, grd_t, grd_i, if_pos, if_neg, bI_k, bV_k, bx0, bx1, mh0, mh1, rd_s, rd_o, rd_j, rd_2k, rdL_1k, ↓reduceIte, Bool.false_eq_true, Bool.true_eq_false, Nat.add_eq, Nat.zero_add, Nat.add_zero, not_true_eq_false, not_false_eq_true, u_no10, v_no10]
    exact Ev.i ⟨rfl, inv_ref h (by omega) (by omega)⟩
