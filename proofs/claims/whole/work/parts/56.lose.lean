/-! lose -/
def cutV (M : Nat → Int32) (i j l : Nat) : Int32 := if l = j then M j &&& ((nI 1 <<< (nI i &&& nI 31)) ^^^ (-nI 1)) else if l = i then M i &&& ((nI 1 <<< (nI j &&& nI 31)) ^^^ (-nI 1)) else M l
theorem cut_j {M : Nat → Int32} {i j : Nat} : cutV M i j j = M j &&& ((nI 1 <<< (nI i &&& nI 31)) ^^^ (-nI 1)) := if_pos rfl
theorem cut_i {M : Nat → Int32} {i j : Nat} (h : i ≠ j) : cutV M i j i = M i &&& ((nI 1 <<< (nI j &&& nI 31)) ^^^ (-nI 1)) := by
  unfold cutV
  rw [if_neg h, if_pos rfl]
theorem cut_o {M : Nat → Int32} {i j l : Nat} (h : l ≠ i) (h2 : l ≠ j) : cutV M i j l = M l := by
  unfold cutV
  rw [if_neg h2, if_neg h]
theorem or_z (x : Int32) : x ||| nI 0 = x := by
  apply bt_ext
  intro i hi
  rw [bt_or, show nI 0 = 0 from rfl, bt_0]
  simp
theorem back {x : Int32} {j : Nat} (hj : j < 32) (h : bt x j = true) : ((x &&& ((nI 1 <<< (nI j &&& nI 31)) ^^^ (-nI 1))) &&& ((nI 1 <<< (nI j &&& nI 31)) ^^^ (-nI 1))) ||| (nI 1 <<< (nI j &&& nI 31)) = x := by
  apply bt_ext
  intro i hi
  have e : bt (nI 1 <<< (nI j &&& nI 31)) i = decide (i = j) := bt_sh hj hi
  have e2 : bt ((nI 1 <<< (nI j &&& nI 31)) ^^^ (-nI 1)) i = !bt (nI 1 <<< (nI j &&& nI 31)) i := bt_neg hi
  rw [bt_or, bt_and, bt_and, e2, e]
  by_cases q : i = j
  · subst q
    simp [h]
  · simp [q]
def hwN (S : Nat → Int32) (L : Nat) (k : Nat → Int32) : Nat → Nat → Nat → Nat
  | 0, _, c => c
  | m + 1, i, c => hwN S L k m (i + 1) (if senV S L (k i) = whV S L then c + 1 else c)
theorem hwN_s {S : Nat → Int32} {L n i c : Nat} {k : Nat → Int32} (h : i < n) : hwN S L k (n - i) i c = hwN S L k (n - (i + 1)) (i + 1) (if senV S L (k i) = whV S L then c + 1 else c) := by
  rw [show n - i = (n - (i + 1)) + 1 by omega]
  rfl
theorem hwN_le {S : Nat → Int32} {L : Nat} {k : Nat → Int32} : ∀ (m i c : Nat), hwN S L k m i c ≤ c + m := by
  intro m
  induction m with
  | zero => intro i c; exact Nat.le_refl _
  | succ m ih =>
    intro i c
    rw [hwN]
    split
    · exact Nat.le_trans (ih _ _) (by omega)
    · exact Nat.le_trans (ih _ _) (by omega)
def hwV (S : Nat → Int32) (L : Nat) (k : Nat → Int32) (n : Nat) : Nat := if whV S L = -nI 1 then 0 else hwN S L k n 0 0
theorem hwV_le {S : Nat → Int32} {L n : Nat} {k : Nat → Int32} : hwV S L k n ≤ n := by
  unfold hwV
  split
  · exact Nat.zero_le _
  · have := hwN_le (S := S) (L := L) (k := k) n 0 0
    omega
theorem X_howMany {w : MW} {n L : Nat} {K A F : Nat → Nat} {M S k M' : Nat → Int32} (rx : RX 1 w n L K A F M S) (hn : n ≤ 8) (hL : L ≤ 30) (kx : KnX w n k M') :
    EI (f_Co_howManyHaveWhole w 1) (fun v w' => v = nI (hwV S L k n) ∧ w' = w) := by
  unfold f_Co_howManyHaveWhole hwV
  rw [X_wholeSense rx (.inl rfl) hL]
  simp only [bI_k]
  by_cases hw : whV S L = -nI 1
  · simp (disch := omega) only [k0, k1, k2, k3, k4, k5, k6, k7, k8, k9, k10, k12, k20, k30, k31, k40, k99, k160, ite_self, nI_add, nI_leI, nI_ltI, nI_eq, nI_clamp, nI_sub', nI_mul, vpb_n, eq_self, implies_true, grd_t, grd_i, if_pos, if_neg, bI_k, bV_k, bx0, bx1, mh0, mh1, rd_s, rd_o, rd_j, rd_2k, rdL_1k, ↓reduceIte, Bool.false_eq_true, Bool.true_eq_false, Nat.add_eq, Nat.zero_add, Nat.add_zero, not_true_eq_false, not_false_eq_true, hw]
    exact Ev.i ⟨rfl, rfl⟩
  simp (disch := omega) only [k0, k1, k2, k3, k4, k5, k6, k7, k8, k9, k10, k12, k20, k30, k31, k40, k99, k160, ite_self, nI_add, nI_leI, nI_ltI, nI_eq, nI_clamp, nI_sub', nI_mul, vpb_n, eq_self, implies_true, grd_t, grd_i, if_pos, if_neg, bI_k, bV_k, bx0, bx1, mh0, mh1, rd_s, rd_o, rd_j, rd_2k, rdL_1k, ↓reduceIte, Bool.false_eq_true, Bool.true_eq_false, Nat.add_eq, Nat.zero_add, Nat.add_zero, not_true_eq_false, not_false_eq_true, hw]
  refine lp (σ := Nat) (F := fun m c i => f_Co_howManyHaveWhole_17 1 m w (whV S L) (nI c) (nI i)) (fun c i => hwN S L k (n - i) i c = hwN S L k n 0 0) n 0 0 (by rw [Nat.sub_zero]) (by omega) (by omega) ?_ ?_
  · intro m c hi
    show Ev (f_Co_howManyHaveWhole_17 1 (m + 1) w (whV S L) (nI c) (nI n)) _
    rw [f_Co_howManyHaveWhole_17, kx.1]
    simp (disch := omega) only [k0, k1, k2, k3, k4, k5, k6, k7, k8, k9, k10, k12, k20, k30, k31, k40, k99, k160, ite_self, nI_add, nI_leI, nI_ltI, nI_eq, nI_clamp, nI_sub', nI_mul, vpb_n, eq_self, implies_true, grd_t, grd_i, if_pos, if_neg, bI_k, bV_k, bx0, bx1, mh0, mh1, rd_s, rd_o, rd_j, rd_2k, rdL_1k, ↓reduceIte, Bool.false_eq_true, Bool.true_eq_false, Nat.add_eq, Nat.zero_add, Nat.add_zero, not_true_eq_false, not_false_eq_true]
    rw [Nat.sub_self] at hi
    rw [← hi]
    exact Ev.i ⟨rfl, rfl⟩
  · intro m c i _ hi hinv kk
    rw [hwN_s hi] at hinv
    show Ev (f_Co_howManyHaveWhole_17 1 (m + 1) w (whV S L) (nI c) (nI i)) _
    rw [f_Co_howManyHaveWhole_17, kx.1, nI_clamp (by omega), (kx.2 i hi).1, X_senseOf rx (.inl rfl) hL]
    by_cases q : senV S L (k i) = whV S L
    · rw [if_pos q] at hinv
      simp (disch := omega) only [k0, k1, k2, k3, k4, k5, k6, k7, k8, k9, k10, k12, k20, k30, k31, k40, k99, k160, ite_self, nI_add, nI_leI, nI_ltI, nI_eq, nI_clamp, nI_sub', nI_mul, vpb_n, eq_self, implies_true, grd_t, grd_i, if_pos, if_neg, bI_k, bV_k, bx0, bx1, mh0, mh1, rd_s, rd_o, rd_j, rd_2k, rdL_1k, ↓reduceIte, Bool.false_eq_true, Bool.true_eq_false, Nat.add_eq, Nat.zero_add, Nat.add_zero, not_true_eq_false, not_false_eq_true, q]
      exact kk _ hinv
    · rw [if_neg q] at hinv
      simp (disch := omega) only [k0, k1, k2, k3, k4, k5, k6, k7, k8, k9, k10, k12, k20, k30, k31, k40, k99, k160, ite_self, nI_add, nI_leI, nI_ltI, nI_eq, nI_clamp, nI_sub', nI_mul, vpb_n, eq_self, implies_true, grd_t, grd_i, if_pos, if_neg, bI_k, bV_k, bx0, bx1, mh0, mh1, rd_s, rd_o, rd_j, rd_2k, rdL_1k, ↓reduceIte, Bool.false_eq_true, Bool.true_eq_false, Nat.add_eq, Nat.zero_add, Nat.add_zero, not_true_eq_false, not_false_eq_true, q]
      exact kk _ hinv
theorem M_haveIt {w : MW} {n L : Nat} {K A F : Nat → Nat} {M S : Nat → Int32} (rm : RM w n L K A F M S) (ok : OK n L K A F) :
    EI (f_M_haveIt w) (fun v w' => v = nI (hwV S L (rideN n M 9 (hs K A F L)) n) ∧ FM w w') := by
  have hn := ok.1
  have hL := ok.2.1
  unfold f_M_haveIt
  rw [M_wholeOf rm hL]
  simp (disch := omega) only [k0, k1, k2, k3, k4, k5, k6, k7, k8, k9, k10, k12, k20, k30, k31, k40, k99, k160, ite_self, nI_add, nI_leI, nI_ltI, nI_eq, nI_clamp, nI_sub', nI_mul, vpb_n, eq_self, implies_true, grd_t, grd_i, if_pos, if_neg, bI_k, bV_k, bx0, bx1, mh0, mh1, rd_s, rd_o, rd_j, rd_2k, rdL_1k, ↓reduceIte, Bool.false_eq_true, Bool.true_eq_false, Nat.add_eq, Nat.zero_add, Nat.add_zero, not_true_eq_false, not_false_eq_true]
  refine Ev.bV (M_goOn rm ok (r := 9) (by omega)) (fun w1 h1 => ?_)
  obtain ⟨f1, e77⟩ := h1
  have rm1 := rm.fm f1
  unfold hwV
  by_cases hw : whV S L = -nI 1
  · rw [if_pos hw]
    refine lp (σ := Unit) (F := fun m _ i => f_M_haveIt_15 m w1 (whV S L) (nI 0) (nI i)) (fun _ _ => True) n 0 () trivial (by omega) (by omega) ?_ ?_
    · intro m _ _
      show Ev (f_M_haveIt_15 (m + 1) w1 (whV S L) (nI 0) (nI n)) _
      rw [f_M_haveIt_15, rm1.1]
      simp (disch := omega) only [k0, k1, k2, k3, k4, k5, k6, k7, k8, k9, k10, k12, k20, k30, k31, k40, k99, k160, ite_self, nI_add, nI_leI, nI_ltI, nI_eq, nI_clamp, nI_sub', nI_mul, vpb_n, eq_self, implies_true, grd_t, grd_i, if_pos, if_neg, bI_k, bV_k, bx0, bx1, mh0, mh1, rd_s, rd_o, rd_j, rd_2k, rdL_1k, ↓reduceIte, Bool.false_eq_true, Bool.true_eq_false, Nat.add_eq, Nat.zero_add, Nat.add_zero, not_true_eq_false, not_false_eq_true]
      exact Ev.i ⟨rfl, f1⟩
    · intro m _ i _ hi _ kk
      show Ev (f_M_haveIt_15 (m + 1) w1 (whV S L) (nI 0) (nI i)) _
      have hw' : whV S L = -1 := hw
      rw [f_M_haveIt_15, rm1.1, if_neg (nI_ge hi (by omega)), if_pos hw', nI_1]
      exact kk () trivial
  · rw [if_neg hw]
    refine lp (σ := Nat) (F := fun m c i => f_M_haveIt_15 m w1 (whV S L) (nI c) (nI i)) (fun c i => hwN S L (rideN n M 9 (hs K A F L)) (n - i) i c = hwN S L (rideN n M 9 (hs K A F L)) n 0 0) n 0 0 (by rw [Nat.sub_zero]) (by omega) (by omega) ?_ ?_
    · intro m c hi
      show Ev (f_M_haveIt_15 (m + 1) w1 (whV S L) (nI c) (nI n)) _
      rw [f_M_haveIt_15, rm1.1]
      simp (disch := omega) only [k0, k1, k2, k3, k4, k5, k6, k7, k8, k9, k10, k12, k20, k30, k31, k40, k99, k160, ite_self, nI_add, nI_leI, nI_ltI, nI_eq, nI_clamp, nI_sub', nI_mul, vpb_n, eq_self, implies_true, grd_t, grd_i, if_pos, if_neg, bI_k, bV_k, bx0, bx1, mh0, mh1, rd_s, rd_o, rd_j, rd_2k, rdL_1k, ↓reduceIte, Bool.false_eq_true, Bool.true_eq_false, Nat.add_eq, Nat.zero_add, Nat.add_zero, not_true_eq_false, not_false_eq_true]
      rw [Nat.sub_self] at hi
      rw [← hi]
      exact Ev.i ⟨rfl, f1⟩
    · intro m c i _ hi hinv kk
      rw [hwN_s hi] at hinv
      show Ev (f_M_haveIt_15 (m + 1) w1 (whV S L) (nI c) (nI i)) _
      rw [f_M_haveIt_15, rm1.1, nI_clamp (by omega), e77 i hi, M_senseOf rm1 hL]
      by_cases q : senV S L (rideN n M 9 (hs K A F L) i) = whV S L
      · rw [if_pos q] at hinv
        simp (disch := omega) only [k0, k1, k2, k3, k4, k5, k6, k7, k8, k9, k10, k12, k20, k30, k31, k40, k99, k160, ite_self, nI_add, nI_leI, nI_ltI, nI_eq, nI_clamp, nI_sub', nI_mul, vpb_n, eq_self, implies_true, grd_t, grd_i, if_pos, if_neg, bI_k, bV_k, bx0, bx1, mh0, mh1, rd_s, rd_o, rd_j, rd_2k, rdL_1k, ↓reduceIte, Bool.false_eq_true, Bool.true_eq_false, Nat.add_eq, Nat.zero_add, Nat.add_zero, not_true_eq_false, not_false_eq_true, q, hw]
        exact kk _ hinv
      · rw [if_neg q] at hinv
        simp (disch := omega) only [k0, k1, k2, k3, k4, k5, k6, k7, k8, k9, k10, k12, k20, k30, k31, k40, k99, k160, ite_self, nI_add, nI_leI, nI_ltI, nI_eq, nI_clamp, nI_sub', nI_mul, vpb_n, eq_self, implies_true, grd_t, grd_i, if_pos, if_neg, bI_k, bV_k, bx0, bx1, mh0, mh1, rd_s, rd_o, rd_j, rd_2k, rdL_1k, ↓reduceIte, Bool.false_eq_true, Bool.true_eq_false, Nat.add_eq, Nat.zero_add, Nat.add_zero, not_true_eq_false, not_false_eq_true, q, hw]
        exact kk _ hinv
def loJ (n : Nat) (M S : Nat → Int32) (L : Nat) (H : Nat → Int32) (i : Nat) : Nat → Nat → Int32 × Int32 → Int32 × Int32
  | 0, _, s => s
  | m + 1, j, s => loJ n M S L H i m (j + 1) (if bt (M i) j = true ∧ nI (hwV S L (rideN n (cutV M i j) 9 H) n) < s.2 then (nI (100 * i + j), nI (hwV S L (rideN n (cutV M i j) 9 H) n)) else s)
def loI (n : Nat) (M S : Nat → Int32) (L : Nat) (H : Nat → Int32) : Nat → Nat → Int32 × Int32 → Int32 × Int32
  | 0, _, s => s
  | m + 1, i, s => loI n M S L H m (i + 1) (loJ n M S L H i (n - (i + 1)) (i + 1) s)
theorem loJ_s {n L i j : Nat} {M S H : Nat → Int32} {s : Int32 × Int32} (h : j < n) : loJ n M S L H i (n - j) j s = loJ n M S L H i (n - (j + 1)) (j + 1) (if bt (M i) j = true ∧ nI (hwV S L (rideN n (cutV M i j) 9 H) n) < s.2 then (nI (100 * i + j), nI (hwV S L (rideN n (cutV M i j) 9 H) n)) else s) := by
  rw [show n - j = (n - (j + 1)) + 1 by omega]
  rfl
theorem loI_s {n L i : Nat} {M S H : Nat → Int32} {s : Int32 × Int32} (h : i < n) : loI n M S L H (n - i) i s = loI n M S L H (n - (i + 1)) (i + 1) (loJ n M S L H i (n - (i + 1)) (i + 1) s) := by
  rw [show n - i = (n - (i + 1)) + 1 by omega]
  rfl
theorem X_doMeet {w : MW} {n L : Nat} {K A F : Nat → Nat} {M S : Nat → Int32} (rx : RX 1 w n L K A F M S) (hn : n ≤ 8) {i j : Nat} (hi : i < n) (hj : j < 32) : v_Ct_doMeet w 1 (nI i) (nI j) = if bt (M i) j = true then nI 1 else nI 0 := by
  unfold v_Ct_doMeet
  rw [man_g rx.1 hi (by omega)]
  have e := (rx.2.2.1 i hi).2.2.2
  simp (disch := omega) only [k0, k1, k2, k3, k4, k5, k6, k7, k8, k9, k10, k12, k20, k30, k31, k40, k99, k160, ite_self, nI_add, nI_leI, nI_ltI, nI_eq, nI_clamp, nI_sub', nI_mul, vpb_n, eq_self, implies_true, grd_t, grd_i, if_pos, if_neg, bI_k, bV_k, bx0, bx1, mh0, mh1, rd_s, rd_o, rd_j, rd_2k, rdL_1k, ↓reduceIte, Bool.false_eq_true, Bool.true_eq_false, Nat.add_eq, Nat.zero_add, Nat.add_zero, not_true_eq_false, not_false_eq_true, e]
theorem X_lose {w : MW} {n L : Nat} {K A F : Nat → Nat} {M S : Nat → Int32} (rx : RX 1 w n L K A F M S) (ok : OK n L K A F) :
    EI (f_Co_worstLoss w 1) (fun v w' => v = (loI n M S L (hs K A F L) n 0 (-nI 1, nI 99)).1 ∧ FX w w') := by
  have hn := ok.1
  have hL := ok.2.1
  unfold f_Co_worstLoss
  refine lp (σ := MW × Int32 × Int32 × Int32) (F := fun m s i => f_Co_worstLoss_8 1 m s.1 s.2.1 s.2.2.1 (nI i))
    (fun s i => FX w s.1 ∧ loI n M S L (hs K A F L) (n - i) i (s.2.1, s.2.2.2) = loI n M S L (hs K A F L) n 0 (-nI 1, nI 99) ∧ (s.2.2.1 = s.2.2.2 ∨ (s.2.2.1 = nI 9 ∧ s.2.2.2 = nI 99))) n 0 (w, -nI 1, nI 9, nI 99) ⟨FX.rfl w, by rw [Nat.sub_zero], .inr ⟨rfl, rfl⟩⟩ (by omega) (by omega) ?_ ?_
  · intro m s hi
    obtain ⟨w1, x, y, z⟩ := s
    obtain ⟨f1, i1, i2⟩ := hi
    replace f1 : FX w w1 := f1
    have rx1 := rx.fx hn (by omega) f1
    show Ev (f_Co_worstLoss_8 1 (m + 1) w1 x y (nI n)) _
    rw [f_Co_worstLoss_8, rx1.1]
    simp (disch := omega) only [k0, k1, k2, k3, k4, k5, k6, k7, k8, k9, k10, k12, k20, k30, k31, k40, k99, k160, ite_self, nI_add, nI_leI, nI_ltI, nI_eq, nI_clamp, nI_sub', nI_mul, vpb_n, eq_self, implies_true, grd_t, grd_i, if_pos, if_neg, bI_k, bV_k, bx0, bx1, mh0, mh1, rd_s, rd_o, rd_j, rd_2k, rdL_1k, ↓reduceIte, Bool.false_eq_true, Bool.true_eq_false, Nat.add_eq, Nat.zero_add, Nat.add_zero, not_true_eq_false, not_false_eq_true]
    rw [Nat.sub_self] at i1
    exact Ev.i ⟨by rw [← i1]; rfl, f1⟩
  · intro m s i _ hi hinv kk
    obtain ⟨w1, x, y, z⟩ := s
    obtain ⟨f1, i1, i2⟩ := hinv
    replace f1 : FX w w1 := f1
    replace i2 : y = z ∨ (y = nI 9 ∧ z = nI 99) := i2
    replace i1 : loI n M S L (hs K A F L) (n - i) i (x, z) = _ := i1
    rw [loI_s hi] at i1
    have rx1 := rx.fx hn (by omega) f1
    show Ev (f_Co_worstLoss_8 1 (m + 1) w1 x y (nI i)) _
    rw [f_Co_worstLoss_8, rx1.1]
    simp (disch := omega) only [k0, k1, k2, k3, k4, k5, k6, k7, k8, k9, k10, k12, k20, k30, k31, k40, k99, k160, ite_self, nI_add, nI_leI, nI_ltI, nI_eq, nI_clamp, nI_sub', nI_mul, vpb_n, eq_self, implies_true, grd_t, grd_i, if_pos, if_neg, bI_k, bV_k, bx0, bx1, mh0, mh1, rd_s, rd_o, rd_j, rd_2k, rdL_1k, ↓reduceIte, Bool.false_eq_true, Bool.true_eq_false, Nat.add_eq, Nat.zero_add, Nat.add_zero, not_true_eq_false, not_false_eq_true]
    refine lp (σ := MW × Int32 × Int32 × Int32) (F := fun m2 s j => f_Co_worstLoss_23 1 _ m2 s.1 s.2.1 s.2.2.1 (nI i) (nI j))
      (fun s j => FX w s.1 ∧ loJ n M S L (hs K A F L) i (n - j) j (s.2.1, s.2.2.2) = loJ n M S L (hs K A F L) i (n - (i + 1)) (i + 1) (x, z) ∧ (s.2.2.1 = s.2.2.2 ∨ (s.2.2.1 = nI 9 ∧ s.2.2.2 = nI 99))) n (i + 1) (w1, x, y, z) ⟨f1, rfl, i2⟩ (by omega) (by omega) ?_ ?_
    · intro m2 s hj
      obtain ⟨w2, x2, y2, z2⟩ := s
      obtain ⟨f2, j1, j2⟩ := hj
      replace f2 : FX w w2 := f2
      have rx2 := rx.fx hn (by omega) f2
      show Ev (f_Co_worstLoss_23 1 _ (m2 + 1) w2 x2 y2 (nI i) (nI n)) _
      rw [f_Co_worstLoss_23, rx2.1]
      simp (disch := omega) only [k0, k1, k2, k3, k4, k5, k6, k7, k8, k9, k10, k12, k20, k30, k31, k40, k99, k160, ite_self, nI_add, nI_leI, nI_ltI, nI_eq, nI_clamp, nI_sub', nI_mul, vpb_n, eq_self, implies_true, grd_t, grd_i, if_pos, if_neg, bI_k, bV_k, bx0, bx1, mh0, mh1, rd_s, rd_o, rd_j, rd_2k, rdL_1k, ↓reduceIte, Bool.false_eq_true, Bool.true_eq_false, Nat.add_eq, Nat.zero_add, Nat.add_zero, not_true_eq_false, not_false_eq_true]
      rw [Nat.sub_self] at j1
      replace j1 : (x2, z2) = _ := j1
      rw [← j1] at i1
      exact kk (w2, x2, y2, z2) ⟨f2, i1, j2⟩
    · intro m2 s j hij hj hinv k2
      obtain ⟨w2, x2, y2, z2⟩ := s
      obtain ⟨f2, j1, j2⟩ := hinv
      replace f2 : FX w w2 := f2
      replace j2 : y2 = z2 ∨ (y2 = nI 9 ∧ z2 = nI 99) := j2
      replace j1 : loJ n M S L (hs K A F L) i (n - j) j (x2, z2) = _ := j1
      rw [loJ_s hj] at j1
      have rx2 := rx.fx hn (by omega) f2
      show Ev (f_Co_worstLoss_23 1 _ (m2 + 1) w2 x2 y2 (nI i) (nI j)) _
      rw [f_Co_worstLoss_23, rx2.1, X_doMeet rx2 hn hi (by omega), man_g rx2.1 hi (by omega)]
      by_cases hb : bt (M i) j = true
      · rw [if_pos hb]
        simp (disch := omega) only [k0, k1, k2, k3, k4, k5, k6, k7, k8, k9, k10, k12, k20, k30, k31, k40, k99, k160, ite_self, nI_add, nI_leI, nI_ltI, nI_eq, nI_clamp, nI_sub', nI_mul, vpb_n, eq_self, implies_true, grd_t, grd_i, if_pos, if_neg, bI_k, bV_k, bx0, bx1, mh0, mh1, rd_s, rd_o, rd_j, rd_2k, rdL_1k, ↓reduceIte, Bool.false_eq_true, Bool.true_eq_false, Nat.add_eq, Nat.zero_add, Nat.add_zero, not_true_eq_false, not_false_eq_true]
        refine Ev.bV (X_begin rx2 (by omega) ok) (fun w3 h3 => ?_)
        obtain ⟨f3, kx3⟩ := h3
        have e1 := (kx3.2 i hi).2
        have e2 := (kx3.2 j hj).2
        simp (disch := omega) only [k0, k1, k2, k3, k4, k5, k6, k7, k8, k9, k10, k12, k20, k30, k31, k40, k99, k160, ite_self, nI_add, nI_leI, nI_ltI, nI_eq, nI_clamp, nI_sub', nI_mul, vpb_n, eq_self, implies_true, grd_t, grd_i, if_pos, if_neg, bI_k, bV_k, bx0, bx1, mh0, mh1, rd_s, rd_o, rd_j, rd_2k, rdL_1k, ↓reduceIte, Bool.false_eq_true, Bool.true_eq_false, Nat.add_eq, Nat.zero_add, Nat.add_zero, not_true_eq_false, not_false_eq_true, e1, e2]
        have kx4 : KnX (setI (setI w3 56 i (M i &&& ((nI 1 <<< (nI j &&& nI 31)) ^^^ (-nI 1)))) 56 j (M j &&& ((nI 1 <<< (nI i &&& nI 31)) ^^^ (-nI 1)))) n (hs K A F L) (cutV M i j) := by
          refine ⟨by simp (disch := omega) only [k0, k1, k2, k3, k4, k5, k6, k7, k8, k9, k10, k12, k20, k30, k31, k40, k99, k160, ite_self, nI_add, nI_leI, nI_ltI, nI_eq, nI_clamp, nI_sub', nI_mul, vpb_n, eq_self, implies_true, grd_t, grd_i, if_pos, if_neg, bI_k, bV_k, bx0, bx1, mh0, mh1, rd_s, rd_o, rd_j, rd_2k, rdL_1k, ↓reduceIte, Bool.false_eq_true, Bool.true_eq_false, Nat.add_eq, Nat.zero_add, Nat.add_zero, not_true_eq_false, not_false_eq_true]; exact kx3.1, fun l hl => ⟨by simp (disch := omega) only [k0, k1, k2, k3, k4, k5, k6, k7, k8, k9, k10, k12, k20, k30, k31, k40, k99, k160, ite_self, nI_add, nI_leI, nI_ltI, nI_eq, nI_clamp, nI_sub', nI_mul, vpb_n, eq_self, implies_true, grd_t, grd_i, if_pos, if_neg, bI_k, bV_k, bx0, bx1, mh0, mh1, rd_s, rd_o, rd_j, rd_2k, rdL_1k, ↓reduceIte, Bool.false_eq_true, Bool.true_eq_false, Nat.add_eq, Nat.zero_add, Nat.add_zero, not_true_eq_false, not_false_eq_true]; exact (kx3.2 l hl).1, ?_⟩⟩
          by_cases q : l = j
          · subst q
            rw [rd_s, cut_j]
          · rw [rd_j q]
            by_cases q2 : l = i
            · subst q2
              rw [rd_s, cut_i q]
            · rw [rd_j q2, cut_o q2 q]
              exact (kx3.2 l hl).2
        refine Ev.bV (X_ride hn (r := 9) (by omega) kx4) (fun w5 h5 => ?_)
        obtain ⟨f5, kx5⟩ := h5
        have f5' : FX w w5 := (f2.tr ((f3.set (by omega)).set (by omega))).tr f5
        have rx5 := rx.fx hn (by omega) f5'
        refine Ev.bI (X_howMany rx5 hn hL kx5) (fun v w6 h6 => ?_)
        obtain ⟨rfl, rfl⟩ := h6
        have hw := hwV_le (S := S) (L := L) (n := n) (k := rideN n (cutV M i j) 9 (hs K A F L))
        have key : y2 ≤ nI (hwV S L (rideN n (cutV M i j) 9 (hs K A F L)) n) ↔ ¬ nI (hwV S L (rideN n (cutV M i j) 9 (hs K A F L)) n) < z2 := by
          rcases j2 with rfl | ⟨rfl, rfl⟩
          · exact Int32.not_lt.symm
          · rw [nI_leI (by omega) (by omega), nI_ltI (by omega) (by omega)]
            omega
        by_cases hq : y2 ≤ nI (hwV S L (rideN n (cutV M i j) 9 (hs K A F L)) n)
        · rw [if_neg (fun q => key.mp hq q.2)] at j1
          simp (disch := omega) only [k0, k1, k2, k3, k4, k5, k6, k7, k8, k9, k10, k12, k20, k30, k31, k40, k99, k160, ite_self, nI_add, nI_leI, nI_ltI, nI_eq, nI_clamp, nI_sub', nI_mul, vpb_n, eq_self, implies_true, grd_t, grd_i, if_pos, if_neg, bI_k, bV_k, bx0, bx1, mh0, mh1, rd_s, rd_o, rd_j, rd_2k, rdL_1k, ↓reduceIte, Bool.false_eq_true, Bool.true_eq_false, Nat.add_eq, Nat.zero_add, Nat.add_zero, not_true_eq_false, not_false_eq_true, hq]
          exact k2 (w6, x2, y2, z2) ⟨f5', j1, j2⟩
        · rw [if_pos ⟨hb, Decidable.byContradiction fun q => hq (key.mpr q)⟩] at j1
          simp (disch := omega) only [k0, k1, k2, k3, k4, k5, k6, k7, k8, k9, k10, k12, k20, k30, k31, k40, k99, k160, ite_self, nI_add, nI_leI, nI_ltI, nI_eq, nI_clamp, nI_sub', nI_mul, vpb_n, eq_self, implies_true, grd_t, grd_i, if_pos, if_neg, bI_k, bV_k, bx0, bx1, mh0, mh1, rd_s, rd_o, rd_j, rd_2k, rdL_1k, ↓reduceIte, Bool.false_eq_true, Bool.true_eq_false, Nat.add_eq, Nat.zero_add, Nat.add_zero, not_true_eq_false, not_false_eq_true, hq, k100]
          exact k2 (w6, _, _, nI (hwV S L (rideN n (cutV M i j) 9 (hs K A F L)) n)) ⟨f5', j1, .inl rfl⟩
      · rw [if_neg hb]
        rw [if_neg (fun q => hb q.1)] at j1
        simp (disch := omega) only [k0, k1, k2, k3, k4, k5, k6, k7, k8, k9, k10, k12, k20, k30, k31, k40, k99, k160, ite_self, nI_add, nI_leI, nI_ltI, nI_eq, nI_clamp, nI_sub', nI_mul, vpb_n, eq_self, implies_true, grd_t, grd_i, if_pos, if_neg, bI_k, bV_k, bx0, bx1, mh0, mh1, rd_s, rd_o, rd_j, rd_2k, rdL_1k, ↓reduceIte, Bool.false_eq_true, Bool.true_eq_false, Nat.add_eq, Nat.zero_add, Nat.add_zero, not_true_eq_false, not_false_eq_true]
        exact k2 (w2, x2, y2, z2) ⟨f2, j1, j2⟩
theorem M_meetF {w : MW} {x y : Nat} (hx : x < 8) (hy : y < 8) (hxy : x ≠ y) : u_M_meeting w (nI x) (nI y) (nI 0) = setI (setI w 71 x (w.1 71 x &&& ((nI 1 <<< (nI y &&& nI 31)) ^^^ (-nI 1)))) 71 y (w.1 71 y &&& ((nI 1 <<< (nI x &&& nI 31)) ^^^ (-nI 1))) := by
  unfold u_M_meeting
  simp (disch := omega) only [k0, k1, k2, k3, k4, k5, k6, k7, k8, k9, k10, k12, k20, k30, k31, k40, k99, k160, ite_self, nI_add, nI_leI, nI_ltI, nI_eq, nI_clamp, nI_sub', nI_mul, vpb_n, eq_self, implies_true, grd_t, grd_i, if_pos, if_neg, bI_k, bV_k, bx0, bx1, mh0, mh1, rd_s, rd_o, rd_j, rd_2k, rdL_1k, ↓reduceIte, Bool.false_eq_true, Bool.true_eq_false, Nat.add_eq, Nat.zero_add, Nat.add_zero, not_true_eq_false, not_false_eq_true, or_z]
theorem M_meetT {w : MW} {x y : Nat} (hx : x < 8) (hy : y < 8) (hxy : x ≠ y) : u_M_meeting w (nI x) (nI y) (nI 1) = setI (setI w 71 x ((w.1 71 x &&& ((nI 1 <<< (nI y &&& nI 31)) ^^^ (-nI 1))) ||| nI 1 <<< (nI y &&& nI 31))) 71 y ((w.1 71 y &&& ((nI 1 <<< (nI x &&& nI 31)) ^^^ (-nI 1))) ||| nI 1 <<< (nI x &&& nI 31)) := by
  unfold u_M_meeting
  simp (disch := omega) only [k0, k1, k2, k3, k4, k5, k6, k7, k8, k9, k10, k12, k20, k30, k31, k40, k99, k160, ite_self, nI_add, nI_leI, nI_ltI, nI_eq, nI_clamp, nI_sub', nI_mul, vpb_n, eq_self, implies_true, grd_t, grd_i, if_pos, if_neg, bI_k, bV_k, bx0, bx1, mh0, mh1, rd_s, rd_o, rd_j, rd_2k, rdL_1k, ↓reduceIte, Bool.false_eq_true, Bool.true_eq_false, Nat.add_eq, Nat.zero_add, Nat.add_zero, not_true_eq_false, not_false_eq_true]
theorem M_lose {w : MW} {n L : Nat} {K A F : Nat → Nat} {M S : Nat → Int32} (rm : RM w n L K A F M S) (ok : OK n L K A F) (om : OKM n M) :
    EI (f_M_lose w) (fun v w' => v = (loI n M S L (hs K A F L) n 0 (-nI 1, nI 99)).1 ∧ FM w w') := by
  have hn := ok.1
  have hL := ok.2.1
  unfold f_M_lose
  refine lp (σ := MW × Int32 × Int32) (F := fun m s i => f_M_lose_7 m s.1 s.2.1 s.2.2 (nI i))
    (fun s i => FM w s.1 ∧ loI n M S L (hs K A F L) (n - i) i s.2 = loI n M S L (hs K A F L) n 0 (-nI 1, nI 99)) n 0 (w, -nI 1, nI 99) ⟨FM.rfl w, by rw [Nat.sub_zero]⟩ (by omega) (by omega) ?_ ?_
  · intro m s hi
    obtain ⟨w1, x, z⟩ := s
    obtain ⟨f1, i1⟩ := hi
    replace f1 : FM w w1 := f1
    have rm1 := rm.fm f1
    show Ev (f_M_lose_7 (m + 1) w1 x z (nI n)) _
    rw [f_M_lose_7, rm1.1]
    simp (disch := omega) only [k0, k1, k2, k3, k4, k5, k6, k7, k8, k9, k10, k12, k20, k30, k31, k40, k99, k160, ite_self, nI_add, nI_leI, nI_ltI, nI_eq, nI_clamp, nI_sub', nI_mul, vpb_n, eq_self, implies_true, grd_t, grd_i, if_pos, if_neg, bI_k, bV_k, bx0, bx1, mh0, mh1, rd_s, rd_o, rd_j, rd_2k, rdL_1k, ↓reduceIte, Bool.false_eq_true, Bool.true_eq_false, Nat.add_eq, Nat.zero_add, Nat.add_zero, not_true_eq_false, not_false_eq_true]
    rw [Nat.sub_self] at i1
    exact Ev.i ⟨by rw [← i1]; rfl, f1⟩
  · intro m s i _ hi hinv kk
    obtain ⟨w1, x, z⟩ := s
    obtain ⟨f1, i1⟩ := hinv
    replace f1 : FM w w1 := f1
    replace i1 : loI n M S L (hs K A F L) (n - i) i (x, z) = _ := i1
    rw [loI_s hi] at i1
    have rm1 := rm.fm f1
    show Ev (f_M_lose_7 (m + 1) w1 x z (nI i)) _
    rw [f_M_lose_7, rm1.1]
    simp (disch := omega) only [k0, k1, k2, k3, k4, k5, k6, k7, k8, k9, k10, k12, k20, k30, k31, k40, k99, k160, ite_self, nI_add, nI_leI, nI_ltI, nI_eq, nI_clamp, nI_sub', nI_mul, vpb_n, eq_self, implies_true, grd_t, grd_i, if_pos, if_neg, bI_k, bV_k, bx0, bx1, mh0, mh1, rd_s, rd_o, rd_j, rd_2k, rdL_1k, ↓reduceIte, Bool.false_eq_true, Bool.true_eq_false, Nat.add_eq, Nat.zero_add, Nat.add_zero, not_true_eq_false, not_false_eq_true]
    refine lp (σ := MW × Int32 × Int32) (F := fun m2 s j => f_M_lose_20 _ m2 s.1 s.2.1 s.2.2 (nI i) (nI j))
      (fun s j => FM w s.1 ∧ loJ n M S L (hs K A F L) i (n - j) j s.2 = loJ n M S L (hs K A F L) i (n - (i + 1)) (i + 1) (x, z)) n (i + 1) (w1, x, z) ⟨f1, rfl⟩ (by omega) (by omega) ?_ ?_
    · intro m2 s hj
      obtain ⟨w2, x2, z2⟩ := s
      obtain ⟨f2, j1⟩ := hj
      replace f2 : FM w w2 := f2
      have rm2 := rm.fm f2
      show Ev (f_M_lose_20 _ (m2 + 1) w2 x2 z2 (nI i) (nI n)) _
      rw [f_M_lose_20, rm2.1]
      simp (disch := omega) only [k0, k1, k2, k3, k4, k5, k6, k7, k8, k9, k10, k12, k20, k30, k31, k40, k99, k160, ite_self, nI_add, nI_leI, nI_ltI, nI_eq, nI_clamp, nI_sub', nI_mul, vpb_n, eq_self, implies_true, grd_t, grd_i, if_pos, if_neg, bI_k, bV_k, bx0, bx1, mh0, mh1, rd_s, rd_o, rd_j, rd_2k, rdL_1k, ↓reduceIte, Bool.false_eq_true, Bool.true_eq_false, Nat.add_eq, Nat.zero_add, Nat.add_zero, not_true_eq_false, not_false_eq_true]
      rw [Nat.sub_self] at j1
      replace j1 : (x2, z2) = _ := j1
      rw [← j1] at i1
      exact kk (w2, x2, z2) ⟨f2, i1⟩
    · intro m2 s j hij hj hinv k2
      obtain ⟨w2, x2, z2⟩ := s
      obtain ⟨f2, j1⟩ := hinv
      replace f2 : FM w w2 := f2
      replace j1 : loJ n M S L (hs K A F L) i (n - j) j (x2, z2) = _ := j1
      rw [loJ_s hj] at j1
      have rm2 := rm.fm f2
      have e1 := (rm2.2.2.1 i hi).2.2.2
      have e2 := (rm2.2.2.1 j hj).2.2.2
      show Ev (f_M_lose_20 _ (m2 + 1) w2 x2 z2 (nI i) (nI j)) _
      rw [f_M_lose_20, rm2.1]
      by_cases hb : bt (M i) j = true
      · have hb2 : bt (M j) i = true := (om i hi j hb).2.2
        simp (disch := omega) only [k0, k1, k2, k3, k4, k5, k6, k7, k8, k9, k10, k12, k20, k30, k31, k40, k99, k160, ite_self, nI_add, nI_leI, nI_ltI, nI_eq, nI_clamp, nI_sub', nI_mul, vpb_n, eq_self, implies_true, grd_t, grd_i, if_pos, if_neg, bI_k, bV_k, bx0, bx1, mh0, mh1, rd_s, rd_o, rd_j, rd_2k, rdL_1k, ↓reduceIte, Bool.false_eq_true, Bool.true_eq_false, Nat.add_eq, Nat.zero_add, Nat.add_zero, not_true_eq_false, not_false_eq_true, e1, hb]
        have eF := M_meetF (w := w2) (x := i) (y := j) (by omega) (by omega) (by omega)
        rw [e1, e2] at eF
        rw [eF]
        have rm3 : RM (setI (setI w2 71 i (M i &&& ((nI 1 <<< (nI j &&& nI 31)) ^^^ (-nI 1)))) 71 j (M j &&& ((nI 1 <<< (nI i &&& nI 31)) ^^^ (-nI 1)))) n L K A F (cutV M i j) S := by
          refine RM.s71 (M := fun l => if l = i then M i &&& ((nI 1 <<< (nI j &&& nI 31)) ^^^ (-nI 1)) else M l) (rm2.s71 (fun l hl q => if_neg q) (if_pos rfl)) (fun l hl q => ?_) cut_j
          by_cases q2 : l = i
          · subst q2
            rw [cut_i q]
            exact (if_pos rfl).symm
          · rw [cut_o q2 q]
            exact (if_neg q2).symm
        refine Ev.bI (M_haveIt rm3 ok) (fun v w4 h4 => ?_)
        obtain ⟨rfl, f4⟩ := h4
        have eT := M_meetT (w := w4) (x := i) (y := j) (by omega) (by omega) (by omega)
        have g1 : w4.1 71 i = M i &&& ((nI 1 <<< (nI j &&& nI 31)) ^^^ (-nI 1)) := by
          rw [f4.1 71 i (by omega) (by omega), rd_j (by omega), rd_s]
        have g2 : w4.1 71 j = M j &&& ((nI 1 <<< (nI i &&& nI 31)) ^^^ (-nI 1)) := by
          rw [f4.1 71 j (by omega) (by omega), rd_s]
        rw [g1, g2, back (by omega) hb, back (by omega) hb2] at eT
        have f5 : FM w (setI (setI w4 71 i (M i)) 71 j (M j)) := by
          refine ⟨fun a l q1 q2 => ?_, f4.2.trans f2.2⟩
          rw [← f2.1 a l q1 q2]
          by_cases c1 : a = 71 ∧ l = j
          · obtain ⟨rfl, rfl⟩ := c1
            rw [rd_s, e2]
          · by_cases c2 : a = 71 ∧ l = i
            · obtain ⟨rfl, rfl⟩ := c2
              rw [rd_j (by omega), rd_s, e1]
            · rw [rd_ite, if_neg c1, rd_ite, if_neg c2, f4.1 a l q1 q2, rd_ite, if_neg c1, rd_ite, if_neg c2]
        by_cases hq : nI (hwV S L (rideN n (cutV M i j) 9 (hs K A F L)) n) < z2
        · rw [if_pos ⟨hb, hq⟩] at j1
          simp (disch := omega) only [k0, k1, k2, k3, k4, k5, k6, k7, k8, k9, k10, k12, k20, k30, k31, k40, k99, k160, ite_self, nI_add, nI_leI, nI_ltI, nI_eq, nI_clamp, nI_sub', nI_mul, vpb_n, eq_self, implies_true, grd_t, grd_i, if_pos, if_neg, bI_k, bV_k, bx0, bx1, mh0, mh1, rd_s, rd_o, rd_j, rd_2k, rdL_1k, ↓reduceIte, Bool.false_eq_true, Bool.true_eq_false, Nat.add_eq, Nat.zero_add, Nat.add_zero, not_true_eq_false, not_false_eq_true, hq, k100, eT]
          exact k2 (_, _, _) ⟨f5, j1⟩
        · rw [if_neg (fun q => hq q.2)] at j1
          simp (disch := omega) only [k0, k1, k2, k3, k4, k5, k6, k7, k8, k9, k10, k12, k20, k30, k31, k40, k99, k160, ite_self, nI_add, nI_leI, nI_ltI, nI_eq, nI_clamp, nI_sub', nI_mul, vpb_n, eq_self, implies_true, grd_t, grd_i, if_pos, if_neg, bI_k, bV_k, bx0, bx1, mh0, mh1, rd_s, rd_o, rd_j, rd_2k, rdL_1k, ↓reduceIte, Bool.false_eq_true, Bool.true_eq_false, Nat.add_eq, Nat.zero_add, Nat.add_zero, not_true_eq_false, not_false_eq_true, hq, eT]
          exact k2 (_, x2, z2) ⟨f5, j1⟩
      · have hb' : bt (M i) j = false := by simpa using hb
        rw [if_neg (fun q => hb q.1)] at j1
        simp (disch := omega) only [k0, k1, k2, k3, k4, k5, k6, k7, k8, k9, k10, k12, k20, k30, k31, k40, k99, k160, ite_self, nI_add, nI_leI, nI_ltI, nI_eq, nI_clamp, nI_sub', nI_mul, vpb_n, eq_self, implies_true, grd_t, grd_i, if_pos, if_neg, bI_k, bV_k, bx0, bx1, mh0, mh1, rd_s, rd_o, rd_j, rd_2k, rdL_1k, ↓reduceIte, Bool.false_eq_true, Bool.true_eq_false, Nat.add_eq, Nat.zero_add, Nat.add_zero, not_true_eq_false, not_false_eq_true, e1, hb']
        exact k2 (w2, x2, z2) ⟨f2, j1⟩
theorem sim_lose : SIM (fun w => f_X_lose w) (fun w => f_M_lose w) := by
  intro sc N w h
  have h0 := h
  obtain ⟨⟨n, L, K, A, F, M, S, g1, g2⟩, g3, g4, g5, g6⟩ := h0
  have ok := g1.2.2.1
  show EI (f_X_lose w) _
  unfold f_X_lose
  refine Ev.bI (X_lose g1.1 ok) (fun v w1 h1 => ?_)
  obtain ⟨rfl, f1⟩ := h1
  have gb := g1.fq f1.q
  refine Ev.i ?_
  refine EI.mono (M_lose gb.2.1 ok gb.2.2.2.1) (fun v w2 h2 => ?_)
  obtain ⟨rfl, f2⟩ := h2
  exact ⟨rfl, h.fq (f1.q.tr f2.q')⟩
