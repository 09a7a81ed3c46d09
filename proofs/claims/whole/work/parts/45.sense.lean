/-! the sense of some places -/
def snV (S : Nat → Int32) (x : Int32) : Nat → Nat → Int32 → Int32 → Bool → Int32
  | 0, _, _, _, _ => -nI 1
  | m + 1, p, a, b, c =>
    if bt x p = false then snV S x m (p + 1) a b c
    else if a = -nI 1 then (if S p - S p / nI 4 * nI 4 = nI 0 then snV S x m (p + 1) (S p / nI 4) b c else snV S x m (p + 1) a b c)
    else if S p - S p / nI 4 * nI 4 = nI 2 then snV S x m (p + 1) a b (!c)
    else if S p - S p / nI 4 * nI 4 = nI 1 then (if b = -nI 1 then snV S x m (p + 1) a (S p / nI 4) c else snV S x m (p + 1) a b c)
    else if S p - S p / nI 4 * nI 4 = nI 0 then (if b = -nI 1 then snV S x m (p + 1) a b c else (nI 100 * a + nI 10 * b + S p / nI 4) + (if c = true then nI 1000 else nI 0))
    else snV S x m (p + 1) a b c
def senV (S : Nat → Int32) (L : Nat) (x : Int32) : Int32 := snV S x L 0 (-nI 1) (-nI 1) false
theorem sn_add (d a b c : Int32) : ((d + a) + b) + c = ((a + b) + c) + d := by
  rw [Int32.add_comm d a, Int32.add_assoc a d b, Int32.add_comm d b, ← Int32.add_assoc a b d, Int32.add_assoc (a + b) d c, Int32.add_comm d c, ← Int32.add_assoc (a + b) c d]
theorem n10 : nI 1 = nI 0 ↔ False := by decide
theorem l100 : (100 : Int32) = nI 100 := rfl
theorem l1000 : (1000 : Int32) = nI 1000 := rfl
theorem ofN (n : Nat) : Int32.ofNat n = nI n := rfl
theorem X_sn (w : MW) (a0 : Nat) (S : Nat → Int32) (L : Nat) (x : Int32) (hL : L ≤ 30) (ha : aln w a0 = 30) (hS : ∀ p, p < L → w.1 a0 p = S p) : ∀ (m fuel p : Nat) (a b : Int32) (c : Bool) (cn : Nat), p + m = L → m < fuel → cn < 1000 - m → c = decide (cn % 2 = 1) →
    f_X_senseIn_11 a0 fuel w (nI L) x a b (nI cn) (nI p) = some (some (.int (snV S x m p a b c)), w) := by
  intro m
  induction m with
  | zero =>
    intro fuel p a b c cn hp hf hcn hc
    obtain ⟨fuel, rfl⟩ : ∃ k, fuel = k + 1 := ⟨fuel - 1, by omega⟩
    rw [f_X_senseIn_11, snV]
    simp (disch := omega) only [l0, l1, l2, l3, l4, l5, l6, l7, l8, l9, l10, l12, l20, l30, l31, l40, l99, l160, ite_self, nI_add, nI_leI, nI_ltI, nI_eq, nI_clamp, nI_sub', vpb_n, eq_self, implies_true, grd_t, grd_i, if_pos, if_neg, bI_i, bV_n, bx0, bx1, mh0, mh1, rd_s, rd_o, rd_j, rd_2, rdL_1, ↓reduceIte, Bool.false_eq_true, Bool.true_eq_false, Nat.add_eq, Nat.zero_add, Nat.add_zero, not_true_eq_false, not_false_eq_true]
  | succ m ih =>
    intro fuel p a b c cn hp hf hcn hc
    obtain ⟨fuel, rfl⟩ : ∃ k, fuel = k + 1 := ⟨fuel - 1, by omega⟩
    have hs := hS p (by omega)
    rw [f_X_senseIn_11, snV]
    simp (disch := omega) only [l0, l1, l2, l3, l4, l5, l6, l7, l8, l9, l10, l12, l20, l30, l31, l40, l99, l160, ite_self, nI_add, nI_leI, nI_ltI, nI_eq, nI_clamp, nI_sub', vpb_n, eq_self, implies_true, grd_t, grd_i, if_pos, if_neg, bI_i, bV_n, bx0, bx1, mh0, mh1, rd_s, rd_o, rd_j, rd_2, rdL_1, ↓reduceIte, Bool.false_eq_true, Bool.true_eq_false, Nat.add_eq, Nat.zero_add, Nat.add_zero, not_true_eq_false, not_false_eq_true, ha, hs, ofN, pk_rem, l100, l1000]
    by_cases h1 : bt x p = false
    · rw [if_pos h1, if_pos h1]
      exact ih fuel (p + 1) a b c cn (by omega) (by omega) (by omega) hc
    rw [if_neg h1, if_neg h1]
    by_cases h2 : a = -nI 1
    · rw [if_pos h2, if_pos h2]
      by_cases h3 : S p - S p / nI 4 * nI 4 = nI 0
      · rw [if_pos h3, if_pos h3]
        exact ih fuel (p + 1) _ b c cn (by omega) (by omega) (by omega) hc
      · rw [if_neg h3, if_neg h3]
        exact ih fuel (p + 1) a b c cn (by omega) (by omega) (by omega) hc
    rw [if_neg h2, if_neg h2]
    by_cases h3 : S p - S p / nI 4 * nI 4 = nI 2
    · rw [if_pos h3, if_pos h3]
      exact ih fuel (p + 1) a b (!c) (cn + 1) (by omega) (by omega) (by omega) (by
        rw [hc]
        by_cases h4 : cn % 2 = 1
        · have h5 : ¬ (cn + 1) % 2 = 1 := by omega
          simp [h4, h5]
        · have h5 : (cn + 1) % 2 = 1 := by omega
          simp [h4, h5])
    rw [if_neg h3, if_neg h3]
    by_cases h4 : S p - S p / nI 4 * nI 4 = nI 1
    · rw [if_pos h4, if_pos h4]
      by_cases h5 : b = -nI 1
      · rw [if_pos h5, if_pos h5]
        exact ih fuel (p + 1) a _ c cn (by omega) (by omega) (by omega) hc
      · have h6 : ¬ S p - S p / nI 4 * nI 4 = nI 0 := fun e => by
          rw [h4] at e
          exact n10.mp e
        rw [if_neg h5, if_neg h5, if_neg h6]
        exact ih fuel (p + 1) a b c cn (by omega) (by omega) (by omega) hc
    rw [if_neg h4, if_neg h4]
    by_cases h5 : S p - S p / nI 4 * nI 4 = nI 0
    · rw [if_pos h5, if_pos h5]
      by_cases h6 : b = -nI 1
      · rw [if_pos h6, if_pos h6]
        exact ih fuel (p + 1) a b c cn (by omega) (by omega) (by omega) hc
      · rw [if_neg h6, if_neg h6]
        by_cases h7 : cn % 2 = 1
        · rw [if_pos h7, hc, if_pos (decide_eq_true h7)]
        · rw [if_neg h7, hc, if_neg (by simp [h7])]
    · rw [if_neg h5, if_neg h5]
      exact ih fuel (p + 1) a b c cn (by omega) (by omega) (by omega) hc
theorem M_sn (w : MW) (S : Nat → Int32) (L : Nat) (x : Int32) (hL : L ≤ 30) (e : w.1 62 10 = nI L) (hS : ∀ p, p < L → w.1 72 p = S p) : ∀ (m fuel p : Nat) (a b : Int32) (c : Bool), p + m = L → m < fuel →
    f_M_senseOf_10 fuel w x a b (if c = true then nI 1 else nI 0) (nI p) = some (some (.int (snV S x m p a b c)), w) := by
  intro m
  induction m with
  | zero =>
    intro fuel p a b c hp hf
    obtain ⟨fuel, rfl⟩ : ∃ k, fuel = k + 1 := ⟨fuel - 1, by omega⟩
    rw [f_M_senseOf_10, snV]
    simp (disch := omega) only [l0, l1, l2, l3, l4, l5, l6, l7, l8, l9, l10, l12, l20, l30, l31, l40, l99, l160, ite_self, nI_add, nI_leI, nI_ltI, nI_eq, nI_clamp, nI_sub', vpb_n, eq_self, implies_true, grd_t, grd_i, if_pos, if_neg, bI_i, bV_n, bx0, bx1, mh0, mh1, rd_s, rd_o, rd_j, rd_2, rdL_1, ↓reduceIte, Bool.false_eq_true, Bool.true_eq_false, Nat.add_eq, Nat.zero_add, Nat.add_zero, not_true_eq_false, not_false_eq_true, e]
  | succ m ih =>
    intro fuel p a b c hp hf
    obtain ⟨fuel, rfl⟩ : ∃ k, fuel = k + 1 := ⟨fuel - 1, by omega⟩
    have hs := hS p (by omega)
    rw [f_M_senseOf_10, snV]
    simp (disch := omega) only [l0, l1, l2, l3, l4, l5, l6, l7, l8, l9, l10, l12, l20, l30, l31, l40, l99, l160, ite_self, nI_add, nI_leI, nI_ltI, nI_eq, nI_clamp, nI_sub', vpb_n, eq_self, implies_true, grd_t, grd_i, if_pos, if_neg, bI_i, bV_n, bx0, bx1, mh0, mh1, rd_s, rd_o, rd_j, rd_2, rdL_1, ↓reduceIte, Bool.false_eq_true, Bool.true_eq_false, Nat.add_eq, Nat.zero_add, Nat.add_zero, not_true_eq_false, not_false_eq_true, e, hs, l100, l1000]
    by_cases h1 : bt x p = false
    · rw [if_pos h1, if_pos h1]
      exact ih fuel (p + 1) a b c (by omega) (by omega)
    rw [if_neg h1, if_neg h1]
    by_cases h2 : a = -nI 1
    · rw [if_pos h2, if_pos h2]
      by_cases h3 : S p - S p / nI 4 * nI 4 = nI 0
      · rw [if_pos h3, if_pos h3]
        exact ih fuel (p + 1) _ b c (by omega) (by omega)
      · rw [if_neg h3, if_neg h3]
        exact ih fuel (p + 1) a b c (by omega) (by omega)
    rw [if_neg h2, if_neg h2]
    by_cases h3 : S p - S p / nI 4 * nI 4 = nI 2
    · rw [if_pos h3, if_pos h3]
      cases c
      · have := ih fuel (p + 1) a b true (by omega) (by omega)
        simpa [nI] using this
      · have := ih fuel (p + 1) a b false (by omega) (by omega)
        simpa [nI] using this
    rw [if_neg h3, if_neg h3]
    by_cases h4 : S p - S p / nI 4 * nI 4 = nI 1
    · rw [if_pos h4, if_pos h4]
      by_cases h5 : b = -nI 1
      · rw [if_pos h5, if_pos h5]
        exact ih fuel (p + 1) a _ c (by omega) (by omega)
      · have h6 : ¬ S p - S p / nI 4 * nI 4 = nI 0 := fun e => by
          rw [h4] at e
          exact n10.mp e
        rw [if_neg h5, if_neg h5, if_neg h6]
        exact ih fuel (p + 1) a b c (by omega) (by omega)
    rw [if_neg h4, if_neg h4]
    by_cases h5 : S p - S p / nI 4 * nI 4 = nI 0
    · rw [if_pos h5, if_pos h5]
      by_cases h6 : b = -nI 1
      · rw [if_pos h6, if_pos h6]
        exact ih fuel (p + 1) a b c (by omega) (by omega)
      · rw [if_neg h6, if_neg h6]
        cases c
        · rw [if_neg (show ¬ false = true by decide), if_pos rfl, if_neg (show ¬ false = true by decide), sn_add]
        · rw [if_pos rfl, if_neg (fun q => n10.mp q), if_pos rfl, sn_add]
    · rw [if_neg h5, if_neg h5]
      exact ih fuel (p + 1) a b c (by omega) (by omega)
theorem X_sense (w : MW) (a0 : Nat) (S : Nat → Int32) (L : Nat) (x : Int32) (hL : L ≤ 30) (ha : aln w a0 = 30) (hS : ∀ p, p < L → w.1 a0 p = S p) : f_X_senseIn w a0 (nI L) x = some (some (.int (senV S L x)), w) := by
  unfold f_X_senseIn
  exact X_sn w a0 S L x hL ha hS L FU 0 _ _ false 0 (by omega) (by unfold FU; omega) (by omega) (by decide)
theorem M_sense (w : MW) (S : Nat → Int32) (L : Nat) (x : Int32) (hL : L ≤ 30) (e : w.1 62 10 = nI L) (hS : ∀ p, p < L → w.1 72 p = S p) : f_M_senseOf w x = some (some (.int (senV S L x)), w) := by
  unfold f_M_senseOf
  exact M_sn w S L x hL e hS L FU 0 _ _ false (by omega) (by unfold FU; omega)
theorem isCt_al {c : Nat} (hc : isCt c) (w : MW) : aln w (c + 10) = 30 := by
  rcases hc with rfl | rfl | rfl <;> rfl
theorem X_senseOf {c : Nat} {w : MW} {n L : Nat} {K A F : Nat → Nat} {M S : Nat → Int32} (h : RX c w n L K A F M S) (hc : isCt c) (hL : L ≤ 30) (x : Int32) : f_Ct_senseOf w c x = some (some (.int (senV S L x)), w) := by
  unfold f_Ct_senseOf
  rw [h.2.1, X_sense w (c + 10) S L x hL (isCt_al hc w) h.2.2.2]
  rfl
theorem M_senseOf {w : MW} {n L : Nat} {K A F : Nat → Nat} {M S : Nat → Int32} (h : RM w n L K A F M S) (hL : L ≤ 30) (x : Int32) : f_M_senseOf w x = some (some (.int (senV S L x)), w) := M_sense w S L x hL h.2.1 h.2.2.2
def allV (L : Nat) : Int32 := nI (spanN 0 L)
theorem all_eq {L : Nat} (hL : L ≤ 30) : (nI 1 <<< (nI L &&& nI 31)) - nI 1 = allV L := by
  have key : ∀ L, L < 31 → ((1 : Int32) <<< (nI L &&& 31)) - 1 = nI (2 ^ L - 1) := by decide +kernel
  refine (key L (by omega)).trans ?_
  unfold allV
  congr 1
  apply Nat.eq_of_testBit_eq
  intro i
  rw [Nat.testBit_two_pow_sub_one]
  apply Bool.eq_iff_iff.mpr
  rw [span_bit, decide_eq_true_iff]
  omega
def whV (S : Nat → Int32) (L : Nat) : Int32 := senV S L (allV L)
theorem X_all (w : MW) {L : Nat} (hL : L ≤ 30) : f_X_span w (nI 0) (nI L) = some (some (.int (allV L)), w) := f_span w (by omega) (by omega)
theorem X_wholeSense {c : Nat} {w : MW} {n L : Nat} {K A F : Nat → Nat} {M S : Nat → Int32} (h : RX c w n L K A F M S) (hc : isCt c) (hL : L ≤ 30) : f_Ct_wholeSense w c = some (some (.int (whV S L)), w) := by
  unfold f_Ct_wholeSense
  rw [h.2.1, l0, X_all w hL]
  simp only [bI_i]
  rw [X_senseOf h hc hL]
  rfl
theorem M_wholeOf {w : MW} {n L : Nat} {K A F : Nat → Nat} {M S : Nat → Int32} (h : RM w n L K A F M S) (hL : L ≤ 30) : f_M_wholeOf w = some (some (.int (whV S L)), w) := by
  unfold f_M_wholeOf
  rw [h.2.1, show ((1 : Int32) <<< (nI L &&& 31)) - 1 = allV L from all_eq hL, M_senseOf h hL]
  rfl
/-! his -/
def hs (K A F : Nat → Nat) (L i : Nat) : Int32 := nI (placesN (K i) (A i) (F i) L)
theorem X_placesOf (w : MW) {a k a' f n : Nat} (h0 : w.1 a 0 = nI k) (h1 : w.1 a 1 = nI a') (h2 : w.1 a 2 = nI f) (hk : k < 7) (ha : a' < 60) (hf : f < 3) (hn : n < 31) : f_Mn_placesOf w a (nI n) = some (some (.int (nI (placesN k a' f n))), w) := by
  unfold f_Mn_placesOf
  rw [h0, h1, h2, f_placesBy w hk ha hf hn]
  rfl
theorem X_his {c : Nat} {w : MW} {n L : Nat} {K A F : Nat → Nat} {M S : Nat → Int32} (h : RX c w n L K A F M S) (ok : OK n L K A F) {i : Nat} (hi : i < n) : f_Ct_his w c (nI i) = some (some (.int (hs K A F L i)), w) := by
  obtain ⟨o1, o2, o3⟩ := ok
  obtain ⟨g1, g2, g3, g4⟩ := h
  obtain ⟨a1, a2, a3, a4⟩ := g3 i hi
  obtain ⟨b1, b2, b3⟩ := o3 i hi
  have e : v_Ct_isMan w c (nI i) = nI 1 := by
    unfold v_Ct_isMan
    simp (disch := omega) only [l0, l1, l2, l3, l4, l5, l6, l7, l8, l9, l10, l12, l20, l30, l31, l40, l99, l160, ite_self, nI_add, nI_leI, nI_ltI, nI_eq, nI_clamp, nI_sub', vpb_n, eq_self, implies_true, grd_t, grd_i, if_pos, if_neg, bI_i, bV_n, bx0, bx1, mh0, mh1, rd_s, rd_o, rd_j, rd_2, rdL_1, ↓reduceIte, Bool.false_eq_true, Bool.true_eq_false, Nat.add_eq, Nat.zero_add, Nat.add_zero, not_true_eq_false, not_false_eq_true, g1, nI_pos]
  unfold f_Ct_his
  rw [e, g2]
  simp (disch := omega) only [l0, l1, l2, l3, l4, l5, l6, l7, l8, l9, l10, l12, l20, l30, l31, l40, l99, l160, ite_self, nI_add, nI_leI, nI_ltI, nI_eq, nI_clamp, nI_sub', vpb_n, eq_self, implies_true, grd_t, grd_i, if_pos, if_neg, bI_i, bV_n, bx0, bx1, mh0, mh1, rd_s, rd_o, rd_j, rd_2, rdL_1, ↓reduceIte, Bool.false_eq_true, Bool.true_eq_false, Nat.add_eq, Nat.zero_add, Nat.add_zero, not_true_eq_false, not_false_eq_true]
  rw [X_placesOf w a1 a2 a3 b1 (by omega) b3 (by omega)]
  rfl
theorem M_hisOf {w : MW} {n L : Nat} {K A F : Nat → Nat} {M S : Nat → Int32} (h : RM w n L K A F M S) (ok : OK n L K A F) {i : Nat} (hi : i < n) : f_M_hisOf w (nI i) = some (some (.int (hs K A F L i)), w) := by
  obtain ⟨o1, o2, o3⟩ := ok
  obtain ⟨g1, g2, g3, g4⟩ := h
  obtain ⟨a1, a2, a3, a4⟩ := g3 i hi
  obtain ⟨b1, b2, b3⟩ := o3 i hi
  unfold f_M_hisOf
  simp (disch := omega) only [l0, l1, l2, l3, l4, l5, l6, l7, l8, l9, l10, l12, l20, l30, l31, l40, l99, l160, ite_self, nI_add, nI_leI, nI_ltI, nI_eq, nI_clamp, nI_sub', vpb_n, eq_self, implies_true, grd_t, grd_i, if_pos, if_neg, bI_i, bV_n, bx0, bx1, mh0, mh1, rd_s, rd_o, rd_j, rd_2, rdL_1, ↓reduceIte, Bool.false_eq_true, Bool.true_eq_false, Nat.add_eq, Nat.zero_add, Nat.add_zero, not_true_eq_false, not_false_eq_true, a1, a2, a3]
  rw [M_hisA w b1 (by omega) b3 o2 g2]
  rfl
/-! rounds of meetings -/
def orF (P : Nat → Bool) (k : Nat → Int32) : Nat → Nat → Int32 → Int32
  | 0, _, acc => acc
  | m + 1, j, acc => orF P k m (j + 1) (if P j = true then acc ||| k j else acc)
def ridV (n : Nat) (M k : Nat → Int32) (i : Nat) : Int32 := orF (fun j => bt (M i) j) k n 0 (k i)
def rideN (n : Nat) (M : Nat → Int32) : Nat → (Nat → Int32) → Nat → Int32
  | 0, k => k
  | r + 1, k => rideN n M r (ridV n M k)
theorem orF_s {P : Nat → Bool} {k : Nat → Int32} {n j : Nat} {acc : Int32} (h : j < n) : orF P k (n - j) j acc = orF P k (n - (j + 1)) (j + 1) (if P j = true then acc ||| k j else acc) := by
  rw [show n - j = (n - (j + 1)) + 1 by omega]
  rfl
theorem orF_e {P : Nat → Bool} {k : Nat → Int32} {n : Nat} {acc : Int32} : orF P k (n - n) n acc = acc := by
  rw [Nat.sub_self]
  rfl
def KnX (w : MW) (n : Nat) (k M : Nat → Int32) : Prop := w.1 53 3 = nI n ∧ ∀ i, i < n → w.1 54 i = k i ∧ w.1 56 i = M i
theorem X_rideOnce {w : MW} {n : Nat} {k M : Nat → Int32} (hn : n ≤ 8) (h : KnX w n k M) : EV (f_Co_rideOnce w) (fun w' => FX w w' ∧ KnX w' n (ridV n M k) M) := by
  unfold f_Co_rideOnce
  refine lp (σ := MW) (F := fun m w' i => f_Co_rideOnce_17 m w' (nI i))
    (fun w' i => FX w w' ∧ w'.1 53 3 = nI n ∧ ∀ j, j < n → w'.1 55 j = k j ∧ w'.1 56 j = M j ∧ w'.1 54 j = if j < i then ridV n M k j else k j) n 0 _ ⟨?_, ?_, ?_⟩ (by omega) (by omega) ?_ ?_
  · exact (FX.rfl w).setA (by omega)
  · rw [setA_o (by decide)]
    exact h.1
  · intro j hj
    rw [setA_s, setA_o (by decide), setA_o (by decide), if_neg (by omega)]
    refine ⟨?_, (h.2 j hj).2, (h.2 j hj).1⟩
    show va_cpy (w.1 54) (w.1 55) (nI 0).toNatClampNeg (nI 0).toNatClampNeg (nI 8).toNatClampNeg j = _
    rw [nI_clamp (by omega), nI_clamp (by omega)]
    unfold va_cpy
    rw [if_pos (by omega), ← (h.2 j hj).1, Nat.sub_zero, Nat.zero_add]
  · intro m w' hi
    obtain ⟨i1, i2, i3⟩ := hi
    show Ev (f_Co_rideOnce_17 (m + 1) w' (nI n)) _
    rw [f_Co_rideOnce_17]
    simp (disch := omega) only [l0, l1, l2, l3, l4, l5, l6, l7, l8, l9, l10, l12, l20, l30, l31, l40, l99, l160, ite_self, nI_add, nI_leI, nI_ltI, nI_eq, nI_clamp, nI_sub', vpb_n, eq_self, implies_true, grd_t, grd_i, if_pos, if_neg, bI_i, bV_n, bx0, bx1, mh0, mh1, rd_s, rd_o, rd_j, rd_2, rdL_1, ↓reduceIte, Bool.false_eq_true, Bool.true_eq_false, Nat.add_eq, Nat.zero_add, Nat.add_zero, not_true_eq_false, not_false_eq_true, i2]
    refine Ev.v ⟨i1, i2, fun j hj => ?_⟩
    obtain ⟨a1, a2, a3⟩ := i3 j hj
    rw [if_pos hj] at a3
    exact ⟨a3, a2⟩
  · intro m w' i _ hi hinv kk
    obtain ⟨i1, i2, i3⟩ := hinv
    show Ev (f_Co_rideOnce_17 (m + 1) w' (nI i)) _
    rw [f_Co_rideOnce_17]
    simp (disch := omega) only [l0, l1, l2, l3, l4, l5, l6, l7, l8, l9, l10, l12, l20, l30, l31, l40, l99, l160, ite_self, nI_add, nI_leI, nI_ltI, nI_eq, nI_clamp, nI_sub', vpb_n, eq_self, implies_true, grd_t, grd_i, if_pos, if_neg, bI_i, bV_n, bx0, bx1, mh0, mh1, rd_s, rd_o, rd_j, rd_2, rdL_1, ↓reduceIte, Bool.false_eq_true, Bool.true_eq_false, Nat.add_eq, Nat.zero_add, Nat.add_zero, not_true_eq_false, not_false_eq_true, i2]
    obtain ⟨a1, a2, a3⟩ := i3 i hi
    rw [if_neg (by omega)] at a3
    refine lp (σ := MW) (F := fun m2 w2 j => f_Co_rideOnce_27 _ m2 w2 (nI i) (nI j))
      (fun w2 j => FX w w2 ∧ w2.1 53 3 = nI n ∧ (∀ l, l < n → w2.1 55 l = k l ∧ w2.1 56 l = M l ∧ (l ≠ i → w2.1 54 l = if l < i then ridV n M k l else k l)) ∧ orF (fun j => bt (M i) j) k (n - j) j (w2.1 54 i) = ridV n M k i) n 0 w' ⟨i1, i2, fun l hl => ⟨(i3 l hl).1, (i3 l hl).2.1, fun _ => (i3 l hl).2.2⟩, by rw [a3]; rfl⟩ (by omega) (by omega) ?_ ?_
    · intro m2 w2 hinv
      obtain ⟨j1, j2, j3, j4⟩ := hinv
      show Ev (f_Co_rideOnce_27 _ (m2 + 1) w2 (nI i) (nI n)) _
      rw [f_Co_rideOnce_27]
      simp (disch := omega) only [l0, l1, l2, l3, l4, l5, l6, l7, l8, l9, l10, l12, l20, l30, l31, l40, l99, l160, ite_self, nI_add, nI_leI, nI_ltI, nI_eq, nI_clamp, nI_sub', vpb_n, eq_self, implies_true, grd_t, grd_i, if_pos, if_neg, bI_i, bV_n, bx0, bx1, mh0, mh1, rd_s, rd_o, rd_j, rd_2, rdL_1, ↓reduceIte, Bool.false_eq_true, Bool.true_eq_false, Nat.add_eq, Nat.zero_add, Nat.add_zero, not_true_eq_false, not_false_eq_true, j2]
      rw [orF_e] at j4
      refine kk w2 ⟨j1, j2, fun l hl => ⟨(j3 l hl).1, (j3 l hl).2.1, ?_⟩⟩
      by_cases e : l = i
      · subst e
        rw [if_pos (by omega)]
        exact j4
      · rw [(j3 l hl).2.2 e]
        by_cases e2 : l < i
        · rw [if_pos e2, if_pos (by omega)]
        · rw [if_neg e2, if_neg (by omega)]
    · intro m2 w2 j _ hj hinv k2
      obtain ⟨j1, j2, j3, j4⟩ := hinv
      show Ev (f_Co_rideOnce_27 _ (m2 + 1) w2 (nI i) (nI j)) _
      rw [f_Co_rideOnce_27]
      have b1 := (j3 i hi).2.1
      have b2 := (j3 j hj).1
      rw [orF_s hj] at j4
      simp (disch := omega) only [l0, l1, l2, l3, l4, l5, l6, l7, l8, l9, l10, l12, l20, l30, l31, l40, l99, l160, ite_self, nI_add, nI_leI, nI_ltI, nI_eq, nI_clamp, nI_sub', vpb_n, eq_self, implies_true, grd_t, grd_i, if_pos, if_neg, bI_i, bV_n, bx0, bx1, mh0, mh1, rd_s, rd_o, rd_j, rd_2, rdL_1, ↓reduceIte, Bool.false_eq_true, Bool.true_eq_false, Nat.add_eq, Nat.zero_add, Nat.add_zero, not_true_eq_false, not_false_eq_true, j2, b1, b2]
      by_cases hb : bt (M i) j = true
      · rw [if_pos hb]
        rw [if_pos hb] at j4
        refine k2 _ ⟨j1.set (by omega), by simp (disch := omega) only [l0, l1, l2, l3, l4, l5, l6, l7, l8, l9, l10, l12, l20, l30, l31, l40, l99, l160, ite_self, nI_add, nI_leI, nI_ltI, nI_eq, nI_clamp, nI_sub', vpb_n, eq_self, implies_true, grd_t, grd_i, if_pos, if_neg, bI_i, bV_n, bx0, bx1, mh0, mh1, rd_s, rd_o, rd_j, rd_2, rdL_1, ↓reduceIte, Bool.false_eq_true, Bool.true_eq_false, Nat.add_eq, Nat.zero_add, Nat.add_zero, not_true_eq_false, not_false_eq_true, j2], fun l hl => ⟨by simp (disch := omega) only [l0, l1, l2, l3, l4, l5, l6, l7, l8, l9, l10, l12, l20, l30, l31, l40, l99, l160, ite_self, nI_add, nI_leI, nI_ltI, nI_eq, nI_clamp, nI_sub', vpb_n, eq_self, implies_true, grd_t, grd_i, if_pos, if_neg, bI_i, bV_n, bx0, bx1, mh0, mh1, rd_s, rd_o, rd_j, rd_2, rdL_1, ↓reduceIte, Bool.false_eq_true, Bool.true_eq_false, Nat.add_eq, Nat.zero_add, Nat.add_zero, not_true_eq_false, not_false_eq_true, (j3 l hl).1], by simp (disch := omega) only [l0, l1, l2, l3, l4, l5, l6, l7, l8, l9, l10, l12, l20, l30, l31, l40, l99, l160, ite_self, nI_add, nI_leI, nI_ltI, nI_eq, nI_clamp, nI_sub', vpb_n, eq_self, implies_true, grd_t, grd_i, if_pos, if_neg, bI_i, bV_n, bx0, bx1, mh0, mh1, rd_s, rd_o, rd_j, rd_2, rdL_1, ↓reduceIte, Bool.false_eq_true, Bool.true_eq_false, Nat.add_eq, Nat.zero_add, Nat.add_zero, not_true_eq_false, not_false_eq_true, (j3 l hl).2.1], fun e => by simp (disch := omega) only [l0, l1, l2, l3, l4, l5, l6, l7, l8, l9, l10, l12, l20, l30, l31, l40, l99, l160, ite_self, nI_add, nI_leI, nI_ltI, nI_eq, nI_clamp, nI_sub', vpb_n, eq_self, implies_true, grd_t, grd_i, if_pos, if_neg, bI_i, bV_n, bx0, bx1, mh0, mh1, rd_s, rd_o, rd_j, rd_2, rdL_1, ↓reduceIte, Bool.false_eq_true, Bool.true_eq_false, Nat.add_eq, Nat.zero_add, Nat.add_zero, not_true_eq_false, not_false_eq_true, (j3 l hl).2.2 e]⟩, ?_⟩
        rw [rd_s]
        exact j4
      · rw [if_neg hb]
        rw [if_neg hb] at j4
        exact k2 _ ⟨j1, j2, j3, j4⟩
theorem X_ride {w : MW} {n r : Nat} {k M : Nat → Int32} (hn : n ≤ 8) (hr : r ≤ 9) (h : KnX w n k M) : EV (f_Co_ride w (nI r)) (fun w' => FX w w' ∧ KnX w' n (rideN n M r k) M) := by
  unfold f_Co_ride
  refine lp (σ := MW) (F := fun m w' i => f_Co_ride_2 m w' (nI r) (nI i)) (fun w' i => FX w w' ∧ ∃ k', KnX w' n k' M ∧ rideN n M (r - i) k' = rideN n M r k) r 0 w ⟨FX.rfl w, k, h, rfl⟩ (by omega) (by omega) ?_ ?_
  · intro m w' hi
    obtain ⟨i1, k', i2, i3⟩ := hi
    show Ev (f_Co_ride_2 (m + 1) w' (nI r) (nI r)) _
    rw [f_Co_ride_2]
    simp (disch := omega) only [l0, l1, l2, l3, l4, l5, l6, l7, l8, l9, l10, l12, l20, l30, l31, l40, l99, l160, ite_self, nI_add, nI_leI, nI_ltI, nI_eq, nI_clamp, nI_sub', vpb_n, eq_self, implies_true, grd_t, grd_i, if_pos, if_neg, bI_i, bV_n, bx0, bx1, mh0, mh1, rd_s, rd_o, rd_j, rd_2, rdL_1, ↓reduceIte, Bool.false_eq_true, Bool.true_eq_false, Nat.add_eq, Nat.zero_add, Nat.add_zero, not_true_eq_false, not_false_eq_true]
    rw [Nat.sub_self] at i3
    rw [← i3]
    exact Ev.v ⟨i1, i2⟩
  · intro m w' i _ hi hinv kk
    obtain ⟨i1, k', i2, i3⟩ := hinv
    show Ev (f_Co_ride_2 (m + 1) w' (nI r) (nI i)) _
    rw [f_Co_ride_2]
    simp (disch := omega) only [l0, l1, l2, l3, l4, l5, l6, l7, l8, l9, l10, l12, l20, l30, l31, l40, l99, l160, ite_self, nI_add, nI_leI, nI_ltI, nI_eq, nI_clamp, nI_sub', vpb_n, eq_self, implies_true, grd_t, grd_i, if_pos, if_neg, bI_i, bV_n, bx0, bx1, mh0, mh1, rd_s, rd_o, rd_j, rd_2, rdL_1, ↓reduceIte, Bool.false_eq_true, Bool.true_eq_false, Nat.add_eq, Nat.zero_add, Nat.add_zero, not_true_eq_false, not_false_eq_true]
    refine Ev.bV (X_rideOnce hn i2) (fun w2 h2 => ?_)
    refine kk w2 ⟨i1.tr h2.1, _, h2.2, ?_⟩
    rw [← i3, show r - i = (r - (i + 1)) + 1 by omega]
    rfl
theorem X_begin {c : Nat} {w : MW} {n L : Nat} {K A F : Nat → Nat} {M S : Nat → Int32} (h : RX c w n L K A F M S) (hc : c ≤ 12) (ok : OK n L K A F) : EV (f_Co_begin w c) (fun w' => FX w w' ∧ KnX w' n (hs K A F L) M) := by
  unfold f_Co_begin
  rw [h.1]
  have hn := ok.1
  refine lp (σ := MW) (F := fun m w' i => f_Co_begin_10 c m w' (nI i)) (fun w' i => FX w w' ∧ w'.1 53 3 = nI n ∧ ∀ j, j < i → w'.1 54 j = hs K A F L j ∧ w'.1 56 j = M j) n 0 _ ⟨(FX.rfl w).set (by omega), rd_s, fun j hj => by omega⟩ (by omega) (by omega) ?_ ?_
  · intro m w' hi
    obtain ⟨i1, i2, i3⟩ := hi
    show Ev (f_Co_begin_10 c (m + 1) w' (nI n)) _
    rw [f_Co_begin_10]
    simp (disch := omega) only [l0, l1, l2, l3, l4, l5, l6, l7, l8, l9, l10, l12, l20, l30, l31, l40, l99, l160, ite_self, nI_add, nI_leI, nI_ltI, nI_eq, nI_clamp, nI_sub', vpb_n, eq_self, implies_true, grd_t, grd_i, if_pos, if_neg, bI_i, bV_n, bx0, bx1, mh0, mh1, rd_s, rd_o, rd_j, rd_2, rdL_1, ↓reduceIte, Bool.false_eq_true, Bool.true_eq_false, Nat.add_eq, Nat.zero_add, Nat.add_zero, not_true_eq_false, not_false_eq_true, i2]
    exact Ev.v ⟨i1, i2, i3⟩
  · intro m w' i _ hi hinv kk
    obtain ⟨i1, i2, i3⟩ := hinv
    have h' := h.fx hn hc i1
    have e1 := (h'.2.2.1 i hi).2.2.2
    show Ev (f_Co_begin_10 c (m + 1) w' (nI i)) _
    rw [f_Co_begin_10, X_his h' ok hi]
    simp (disch := omega) only [l0, l1, l2, l3, l4, l5, l6, l7, l8, l9, l10, l12, l20, l30, l31, l40, l99, l160, ite_self, nI_add, nI_leI, nI_ltI, nI_eq, nI_clamp, nI_sub', vpb_n, eq_self, implies_true, grd_t, grd_i, if_pos, if_neg, bI_i, bV_n, bx0, bx1, mh0, mh1, rd_s, rd_o, rd_j, rd_2, rdL_1, ↓reduceIte, Bool.false_eq_true, Bool.true_eq_false, Nat.add_eq, Nat.zero_add, Nat.add_zero, not_true_eq_false, not_false_eq_true, i2, e1]
    refine kk _ ⟨(i1.set (by omega)).set (by omega), by simp (disch := omega) only [l0, l1, l2, l3, l4, l5, l6, l7, l8, l9, l10, l12, l20, l30, l31, l40, l99, l160, ite_self, nI_add, nI_leI, nI_ltI, nI_eq, nI_clamp, nI_sub', vpb_n, eq_self, implies_true, grd_t, grd_i, if_pos, if_neg, bI_i, bV_n, bx0, bx1, mh0, mh1, rd_s, rd_o, rd_j, rd_2, rdL_1, ↓reduceIte, Bool.false_eq_true, Bool.true_eq_false, Nat.add_eq, Nat.zero_add, Nat.add_zero, not_true_eq_false, not_false_eq_true, i2], fun j hj => ?_⟩
    by_cases e : j = i
    · subst e
      exact ⟨by simp (disch := omega) only [l0, l1, l2, l3, l4, l5, l6, l7, l8, l9, l10, l12, l20, l30, l31, l40, l99, l160, ite_self, nI_add, nI_leI, nI_ltI, nI_eq, nI_clamp, nI_sub', vpb_n, eq_self, implies_true, grd_t, grd_i, if_pos, if_neg, bI_i, bV_n, bx0, bx1, mh0, mh1, rd_s, rd_o, rd_j, rd_2, rdL_1, ↓reduceIte, Bool.false_eq_true, Bool.true_eq_false, Nat.add_eq, Nat.zero_add, Nat.add_zero, not_true_eq_false, not_false_eq_true], by simp (disch := omega) only [l0, l1, l2, l3, l4, l5, l6, l7, l8, l9, l10, l12, l20, l30, l31, l40, l99, l160, ite_self, nI_add, nI_leI, nI_ltI, nI_eq, nI_clamp, nI_sub', vpb_n, eq_self, implies_true, grd_t, grd_i, if_pos, if_neg, bI_i, bV_n, bx0, bx1, mh0, mh1, rd_s, rd_o, rd_j, rd_2, rdL_1, ↓reduceIte, Bool.false_eq_true, Bool.true_eq_false, Nat.add_eq, Nat.zero_add, Nat.add_zero, not_true_eq_false, not_false_eq_true]⟩
    · have := i3 j (by omega)
      exact ⟨by simp (disch := omega) only [l0, l1, l2, l3, l4, l5, l6, l7, l8, l9, l10, l12, l20, l30, l31, l40, l99, l160, ite_self, nI_add, nI_leI, nI_ltI, nI_eq, nI_clamp, nI_sub', vpb_n, eq_self, implies_true, grd_t, grd_i, if_pos, if_neg, bI_i, bV_n, bx0, bx1, mh0, mh1, rd_s, rd_o, rd_j, rd_2, rdL_1, ↓reduceIte, Bool.false_eq_true, Bool.true_eq_false, Nat.add_eq, Nat.zero_add, Nat.add_zero, not_true_eq_false, not_false_eq_true, this.1], by simp (disch := omega) only [l0, l1, l2, l3, l4, l5, l6, l7, l8, l9, l10, l12, l20, l30, l31, l40, l99, l160, ite_self, nI_add, nI_leI, nI_ltI, nI_eq, nI_clamp, nI_sub', vpb_n, eq_self, implies_true, grd_t, grd_i, if_pos, if_neg, bI_i, bV_n, bx0, bx1, mh0, mh1, rd_s, rd_o, rd_j, rd_2, rdL_1, ↓reduceIte, Bool.false_eq_true, Bool.true_eq_false, Nat.add_eq, Nat.zero_add, Nat.add_zero, not_true_eq_false, not_false_eq_true, this.2]⟩
theorem M_round {w : MW} {n L : Nat} {K A F : Nat → Nat} {M S : Nat → Int32} (h : RM w n L K A F M S) (hn : n ≤ 8) {k : Nat → Int32} (hk : ∀ i, i < n → w.1 77 i = k i) : EV (f_M_round w) (fun w' => FM w w' ∧ ∀ i, i < n → w'.1 77 i = ridV n M k i) := by
  unfold f_M_round
  refine lp (σ := MW) (F := fun m w' i => f_M_round_2 m w' (nI i)) (fun w' i => FM w w' ∧ (∀ j, j < n → w'.1 77 j = k j) ∧ ∀ j, j < i → w'.1 78 j = ridV n M k j) n 0 w ⟨FM.rfl w, hk, fun j hj => by omega⟩ (by omega) (by omega) ?_ ?_
  · intro m w' hi
    obtain ⟨i1, i2, i3⟩ := hi
    have e1 := (h.fm i1).1
    show Ev (f_M_round_2 (m + 1) w' (nI n)) _
    rw [f_M_round_2]
    simp (disch := omega) only [l0, l1, l2, l3, l4, l5, l6, l7, l8, l9, l10, l12, l20, l30, l31, l40, l99, l160, ite_self, nI_add, nI_leI, nI_ltI, nI_eq, nI_clamp, nI_sub', vpb_n, eq_self, implies_true, grd_t, grd_i, if_pos, if_neg, bI_i, bV_n, bx0, bx1, mh0, mh1, rd_s, rd_o, rd_j, rd_2, rdL_1, ↓reduceIte, Bool.false_eq_true, Bool.true_eq_false, Nat.add_eq, Nat.zero_add, Nat.add_zero, not_true_eq_false, not_false_eq_true, e1]
    refine lp (σ := MW) (F := fun m w' i => f_M_round_74 m w' (nI i)) (fun w' i => FM w w' ∧ (∀ j, j < n → w'.1 78 j = ridV n M k j) ∧ ∀ j, j < i → w'.1 77 j = ridV n M k j) n 0 w' ⟨i1, i3, fun j hj => by omega⟩ (by omega) (by omega) ?_ ?_
    · intro m w2 hj
      obtain ⟨j1, j2, j3⟩ := hj
      have e2 := (h.fm j1).1
      show Ev (f_M_round_74 (m + 1) w2 (nI n)) _
      rw [f_M_round_74]
      simp (disch := omega) only [l0, l1, l2, l3, l4, l5, l6, l7, l8, l9, l10, l12, l20, l30, l31, l40, l99, l160, ite_self, nI_add, nI_leI, nI_ltI, nI_eq, nI_clamp, nI_sub', vpb_n, eq_self, implies_true, grd_t, grd_i, if_pos, if_neg, bI_i, bV_n, bx0, bx1, mh0, mh1, rd_s, rd_o, rd_j, rd_2, rdL_1, ↓reduceIte, Bool.false_eq_true, Bool.true_eq_false, Nat.add_eq, Nat.zero_add, Nat.add_zero, not_true_eq_false, not_false_eq_true, e2]
      exact Ev.v ⟨j1, j3⟩
    · intro m w2 i _ hi hinv kk
      obtain ⟨j1, j2, j3⟩ := hinv
      have e2 := (h.fm j1).1
      have e3 := j2 i hi
      show Ev (f_M_round_74 (m + 1) w2 (nI i)) _
      rw [f_M_round_74]
      simp (disch := omega) only [l0, l1, l2, l3, l4, l5, l6, l7, l8, l9, l10, l12, l20, l30, l31, l40, l99, l160, ite_self, nI_add, nI_leI, nI_ltI, nI_eq, nI_clamp, nI_sub', vpb_n, eq_self, implies_true, grd_t, grd_i, if_pos, if_neg, bI_i, bV_n, bx0, bx1, mh0, mh1, rd_s, rd_o, rd_j, rd_2, rdL_1, ↓reduceIte, Bool.false_eq_true, Bool.true_eq_false, Nat.add_eq, Nat.zero_add, Nat.add_zero, not_true_eq_false, not_false_eq_true, e2, e3]
      refine kk _ ⟨j1.set (by omega), fun j hj => by simp (disch := omega) only [l0, l1, l2, l3, l4, l5, l6, l7, l8, l9, l10, l12, l20, l30, l31, l40, l99, l160, ite_self, nI_add, nI_leI, nI_ltI, nI_eq, nI_clamp, nI_sub', vpb_n, eq_self, implies_true, grd_t, grd_i, if_pos, if_neg, bI_i, bV_n, bx0, bx1, mh0, mh1, rd_s, rd_o, rd_j, rd_2, rdL_1, ↓reduceIte, Bool.false_eq_true, Bool.true_eq_false, Nat.add_eq, Nat.zero_add, Nat.add_zero, not_true_eq_false, not_false_eq_true, j2 j hj], fun j hj => ?_⟩
      by_cases e : j = i
      · subst e
        simp (disch := omega) only [l0, l1, l2, l3, l4, l5, l6, l7, l8, l9, l10, l12, l20, l30, l31, l40, l99, l160, ite_self, nI_add, nI_leI, nI_ltI, nI_eq, nI_clamp, nI_sub', vpb_n, eq_self, implies_true, grd_t, grd_i, if_pos, if_neg, bI_i, bV_n, bx0, bx1, mh0, mh1, rd_s, rd_o, rd_j, rd_2, rdL_1, ↓reduceIte, Bool.false_eq_true, Bool.true_eq_false, Nat.add_eq, Nat.zero_add, Nat.add_zero, not_true_eq_false, not_false_eq_true]
      · have := j3 j (by omega)
        simp (disch := omega) only [l0, l1, l2, l3, l4, l5, l6, l7, l8, l9, l10, l12, l20, l30, l31, l40, l99, l160, ite_self, nI_add, nI_leI, nI_ltI, nI_eq, nI_clamp, nI_sub', vpb_n, eq_self, implies_true, grd_t, grd_i, if_pos, if_neg, bI_i, bV_n, bx0, bx1, mh0, mh1, rd_s, rd_o, rd_j, rd_2, rdL_1, ↓reduceIte, Bool.false_eq_true, Bool.true_eq_false, Nat.add_eq, Nat.zero_add, Nat.add_zero, not_true_eq_false, not_false_eq_true, this]
  · intro m w' i _ hi hinv kk
    obtain ⟨i1, i2, i3⟩ := hinv
    have e1 := (h.fm i1).1
    have e2 := i2 i hi
    show Ev (f_M_round_2 (m + 1) w' (nI i)) _
    rw [f_M_round_2]
    simp (disch := omega) only [l0, l1, l2, l3, l4, l5, l6, l7, l8, l9, l10, l12, l20, l30, l31, l40, l99, l160, ite_self, nI_add, nI_leI, nI_ltI, nI_eq, nI_clamp, nI_sub', vpb_n, eq_self, implies_true, grd_t, grd_i, if_pos, if_neg, bI_i, bV_n, bx0, bx1, mh0, mh1, rd_s, rd_o, rd_j, rd_2, rdL_1, ↓reduceIte, Bool.false_eq_true, Bool.true_eq_false, Nat.add_eq, Nat.zero_add, Nat.add_zero, not_true_eq_false, not_false_eq_true, e1, e2]
    refine lp (σ := MW) (F := fun m2 w2 j => f_M_round_24 _ m2 w2 (nI i) (nI j)) (fun w2 j => FM w w2 ∧ (∀ j, j < n → w2.1 77 j = k j) ∧ (∀ j, j < i → w2.1 78 j = ridV n M k j) ∧ orF (fun j => bt (M i) j) k (n - j) j (w2.1 78 i) = ridV n M k i) n 0 _ ⟨i1.set (by omega), fun j hj => by simp (disch := omega) only [l0, l1, l2, l3, l4, l5, l6, l7, l8, l9, l10, l12, l20, l30, l31, l40, l99, l160, ite_self, nI_add, nI_leI, nI_ltI, nI_eq, nI_clamp, nI_sub', vpb_n, eq_self, implies_true, grd_t, grd_i, if_pos, if_neg, bI_i, bV_n, bx0, bx1, mh0, mh1, rd_s, rd_o, rd_j, rd_2, rdL_1, ↓reduceIte, Bool.false_eq_true, Bool.true_eq_false, Nat.add_eq, Nat.zero_add, Nat.add_zero, not_true_eq_false, not_false_eq_true, i2 j hj], fun j hj => by simp (disch := omega) only [l0, l1, l2, l3, l4, l5, l6, l7, l8, l9, l10, l12, l20, l30, l31, l40, l99, l160, ite_self, nI_add, nI_leI, nI_ltI, nI_eq, nI_clamp, nI_sub', vpb_n, eq_self, implies_true, grd_t, grd_i, if_pos, if_neg, bI_i, bV_n, bx0, bx1, mh0, mh1, rd_s, rd_o, rd_j, rd_2, rdL_1, ↓reduceIte, Bool.false_eq_true, Bool.true_eq_false, Nat.add_eq, Nat.zero_add, Nat.add_zero, not_true_eq_false, not_false_eq_true, i3 j hj], by simp (disch := omega) only [l0, l1, l2, l3, l4, l5, l6, l7, l8, l9, l10, l12, l20, l30, l31, l40, l99, l160, ite_self, nI_add, nI_leI, nI_ltI, nI_eq, nI_clamp, nI_sub', vpb_n, eq_self, implies_true, grd_t, grd_i, if_pos, if_neg, bI_i, bV_n, bx0, bx1, mh0, mh1, rd_s, rd_o, rd_j, rd_2, rdL_1, ↓reduceIte, Bool.false_eq_true, Bool.true_eq_false, Nat.add_eq, Nat.zero_add, Nat.add_zero, not_true_eq_false, not_false_eq_true]; rfl⟩ (by omega) (by omega) ?_ ?_
    · intro m2 w2 hinv
      obtain ⟨j1, j2, j3, j4⟩ := hinv
      have e3 := (h.fm j1).1
      show Ev (f_M_round_24 _ (m2 + 1) w2 (nI i) (nI n)) _
      rw [f_M_round_24]
      simp (disch := omega) only [l0, l1, l2, l3, l4, l5, l6, l7, l8, l9, l10, l12, l20, l30, l31, l40, l99, l160, ite_self, nI_add, nI_leI, nI_ltI, nI_eq, nI_clamp, nI_sub', vpb_n, eq_self, implies_true, grd_t, grd_i, if_pos, if_neg, bI_i, bV_n, bx0, bx1, mh0, mh1, rd_s, rd_o, rd_j, rd_2, rdL_1, ↓reduceIte, Bool.false_eq_true, Bool.true_eq_false, Nat.add_eq, Nat.zero_add, Nat.add_zero, not_true_eq_false, not_false_eq_true, e3]
      rw [orF_e] at j4
      refine kk w2 ⟨j1, j2, fun l hl => ?_⟩
      by_cases e : l = i
      · subst e
        exact j4
      · exact j3 l (by omega)
    · intro m2 w2 j _ hj hinv k2
      obtain ⟨j1, j2, j3, j4⟩ := hinv
      have e3 := (h.fm j1).1
      have e4 := ((h.fm j1).2.2.1 i hi).2.2.2
      have e5 := j2 j hj
      show Ev (f_M_round_24 _ (m2 + 1) w2 (nI i) (nI j)) _
      rw [f_M_round_24]
      rw [orF_s hj] at j4
      simp (disch := omega) only [l0, l1, l2, l3, l4, l5, l6, l7, l8, l9, l10, l12, l20, l30, l31, l40, l99, l160, ite_self, nI_add, nI_leI, nI_ltI, nI_eq, nI_clamp, nI_sub', vpb_n, eq_self, implies_true, grd_t, grd_i, if_pos, if_neg, bI_i, bV_n, bx0, bx1, mh0, mh1, rd_s, rd_o, rd_j, rd_2, rdL_1, ↓reduceIte, Bool.false_eq_true, Bool.true_eq_false, Nat.add_eq, Nat.zero_add, Nat.add_zero, not_true_eq_false, not_false_eq_true, e3, e4, e5]
      by_cases hb : bt (M i) j = true
      · rw [if_neg (by rw [hb]; decide)]
        rw [if_pos hb] at j4
        refine k2 _ ⟨j1.set (by omega), fun l hl => by simp (disch := omega) only [l0, l1, l2, l3, l4, l5, l6, l7, l8, l9, l10, l12, l20, l30, l31, l40, l99, l160, ite_self, nI_add, nI_leI, nI_ltI, nI_eq, nI_clamp, nI_sub', vpb_n, eq_self, implies_true, grd_t, grd_i, if_pos, if_neg, bI_i, bV_n, bx0, bx1, mh0, mh1, rd_s, rd_o, rd_j, rd_2, rdL_1, ↓reduceIte, Bool.false_eq_true, Bool.true_eq_false, Nat.add_eq, Nat.zero_add, Nat.add_zero, not_true_eq_false, not_false_eq_true, j2 l hl], fun l hl => by simp (disch := omega) only [l0, l1, l2, l3, l4, l5, l6, l7, l8, l9, l10, l12, l20, l30, l31, l40, l99, l160, ite_self, nI_add, nI_leI, nI_ltI, nI_eq, nI_clamp, nI_sub', vpb_n, eq_self, implies_true, grd_t, grd_i, if_pos, if_neg, bI_i, bV_n, bx0, bx1, mh0, mh1, rd_s, rd_o, rd_j, rd_2, rdL_1, ↓reduceIte, Bool.false_eq_true, Bool.true_eq_false, Nat.add_eq, Nat.zero_add, Nat.add_zero, not_true_eq_false, not_false_eq_true, j3 l hl], ?_⟩
        rw [rd_s]
        exact j4
      · rw [if_pos (by simpa using hb)]
        rw [if_neg hb] at j4
        exact k2 _ ⟨j1, j2, j3, j4⟩
theorem M_goOn {w : MW} {n L : Nat} {K A F : Nat → Nat} {M S : Nat → Int32} (h : RM w n L K A F M S) (ok : OK n L K A F) {r : Nat} (hr : r ≤ 9) : EV (f_M_goOn w (nI r)) (fun w' => FM w w' ∧ ∀ i, i < n → w'.1 77 i = rideN n M r (hs K A F L) i) := by
  have hn := ok.1
  unfold f_M_goOn
  refine lp (σ := MW) (F := fun m w' i => f_M_goOn_2 m w' (nI r) (nI i)) (fun w' i => FM w w' ∧ ∀ j, j < i → w'.1 77 j = hs K A F L j) n 0 w ⟨FM.rfl w, fun j hj => by omega⟩ (by omega) (by omega) ?_ ?_
  · intro m w' hi
    obtain ⟨i1, i2⟩ := hi
    have e1 := (h.fm i1).1
    show Ev (f_M_goOn_2 (m + 1) w' (nI r) (nI n)) _
    rw [f_M_goOn_2]
    simp (disch := omega) only [l0, l1, l2, l3, l4, l5, l6, l7, l8, l9, l10, l12, l20, l30, l31, l40, l99, l160, ite_self, nI_add, nI_leI, nI_ltI, nI_eq, nI_clamp, nI_sub', vpb_n, eq_self, implies_true, grd_t, grd_i, if_pos, if_neg, bI_i, bV_n, bx0, bx1, mh0, mh1, rd_s, rd_o, rd_j, rd_2, rdL_1, ↓reduceIte, Bool.false_eq_true, Bool.true_eq_false, Nat.add_eq, Nat.zero_add, Nat.add_zero, not_true_eq_false, not_false_eq_true, e1]
    refine lp (σ := MW) (F := fun m w' i => f_M_goOn_29 m w' (nI r) (nI i)) (fun w' i => FM w w' ∧ ∃ k', (∀ j, j < n → w'.1 77 j = k' j) ∧ rideN n M (r - i) k' = rideN n M r (hs K A F L)) r 0 w' ⟨i1, _, i2, rfl⟩ (by omega) (by omega) ?_ ?_
    · intro m w2 hj
      obtain ⟨j1, k', j2, j3⟩ := hj
      show Ev (f_M_goOn_29 (m + 1) w2 (nI r) (nI r)) _
      rw [f_M_goOn_29]
      simp (disch := omega) only [l0, l1, l2, l3, l4, l5, l6, l7, l8, l9, l10, l12, l20, l30, l31, l40, l99, l160, ite_self, nI_add, nI_leI, nI_ltI, nI_eq, nI_clamp, nI_sub', vpb_n, eq_self, implies_true, grd_t, grd_i, if_pos, if_neg, bI_i, bV_n, bx0, bx1, mh0, mh1, rd_s, rd_o, rd_j, rd_2, rdL_1, ↓reduceIte, Bool.false_eq_true, Bool.true_eq_false, Nat.add_eq, Nat.zero_add, Nat.add_zero, not_true_eq_false, not_false_eq_true]
      rw [Nat.sub_self] at j3
      rw [← j3]
      exact Ev.v ⟨j1, j2⟩
    · intro m w2 i _ hi hinv kk
      obtain ⟨j1, k', j2, j3⟩ := hinv
      show Ev (f_M_goOn_29 (m + 1) w2 (nI r) (nI i)) _
      rw [f_M_goOn_29]
      simp (disch := omega) only [l0, l1, l2, l3, l4, l5, l6, l7, l8, l9, l10, l12, l20, l30, l31, l40, l99, l160, ite_self, nI_add, nI_leI, nI_ltI, nI_eq, nI_clamp, nI_sub', vpb_n, eq_self, implies_true, grd_t, grd_i, if_pos, if_neg, bI_i, bV_n, bx0, bx1, mh0, mh1, rd_s, rd_o, rd_j, rd_2, rdL_1, ↓reduceIte, Bool.false_eq_true, Bool.true_eq_false, Nat.add_eq, Nat.zero_add, Nat.add_zero, not_true_eq_false, not_false_eq_true]
      refine Ev.bV (M_round (h.fm j1) hn j2) (fun w3 h3 => ?_)
      refine kk w3 ⟨j1.tr h3.1, _, h3.2, ?_⟩
      rw [← j3, show r - i = (r - (i + 1)) + 1 by omega]
      rfl
  · intro m w' i _ hi hinv kk
    obtain ⟨i1, i2⟩ := hinv
    have e1 := (h.fm i1).1
    show Ev (f_M_goOn_2 (m + 1) w' (nI r) (nI i)) _
    rw [f_M_goOn_2, M_hisOf (h.fm i1) ok hi]
    simp (disch := omega) only [l0, l1, l2, l3, l4, l5, l6, l7, l8, l9, l10, l12, l20, l30, l31, l40, l99, l160, ite_self, nI_add, nI_leI, nI_ltI, nI_eq, nI_clamp, nI_sub', vpb_n, eq_self, implies_true, grd_t, grd_i, if_pos, if_neg, bI_i, bV_n, bx0, bx1, mh0, mh1, rd_s, rd_o, rd_j, rd_2, rdL_1, ↓reduceIte, Bool.false_eq_true, Bool.true_eq_false, Nat.add_eq, Nat.zero_add, Nat.add_zero, not_true_eq_false, not_false_eq_true, e1]
    refine kk _ ⟨i1.set (by omega), fun j hj => ?_⟩
    by_cases e : j = i
    · subst e
      simp (disch := omega) only [l0, l1, l2, l3, l4, l5, l6, l7, l8, l9, l10, l12, l20, l30, l31, l40, l99, l160, ite_self, nI_add, nI_leI, nI_ltI, nI_eq, nI_clamp, nI_sub', vpb_n, eq_self, implies_true, grd_t, grd_i, if_pos, if_neg, bI_i, bV_n, bx0, bx1, mh0, mh1, rd_s, rd_o, rd_j, rd_2, rdL_1, ↓reduceIte, Bool.false_eq_true, Bool.true_eq_false, Nat.add_eq, Nat.zero_add, Nat.add_zero, not_true_eq_false, not_false_eq_true]
    · have := i2 j (by omega)
      simp (disch := omega) only [l0, l1, l2, l3, l4, l5, l6, l7, l8, l9, l10, l12, l20, l30, l31, l40, l99, l160, ite_self, nI_add, nI_leI, nI_ltI, nI_eq, nI_clamp, nI_sub', vpb_n, eq_self, implies_true, grd_t, grd_i, if_pos, if_neg, bI_i, bV_n, bx0, bx1, mh0, mh1, rd_s, rd_o, rd_j, rd_2, rdL_1, ↓reduceIte, Bool.false_eq_true, Bool.true_eq_false, Nat.add_eq, Nat.zero_add, Nat.add_zero, not_true_eq_false, not_false_eq_true, this]
