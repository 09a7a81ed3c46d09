/-! moves -/
theorem nIm1 {m : Nat} (h : m < 2 ^ 31) : (nI m = -nI 1) = False := eq_false (nI_ne_m1 h)
def nts (w : MW) : List Nat → MW
  | [] => w
  | b :: l => nts (u_Mv_note w (nI b)) l
def rns (w : MW) : List Nat → MW
  | [] => w
  | b :: l => rns (u_M_ran w (nI b)) l
theorem nt_o {w : MW} {x : Int32} {a : Nat} (h : a ≠ 60) (h2 : a ≠ 61) : (u_Mv_note w x).1 a = w.1 a := by
  unfold u_Mv_note
  split
  · rw [rd_o h]
  · rw [rd_o h, rd_o h2]
theorem nt_j {w : MW} {x : Int32} {j : Nat} (h : j ≠ 1) : (u_Mv_note w x).1 60 j = w.1 60 j := by
  unfold u_Mv_note
  split
  · rw [rd_j h]
  · rw [rd_j h, rd_o (by omega)]
theorem nt_1 {w : MW} {x : Int32} : (u_Mv_note w x).1 60 1 = w.1 60 1 + nI 1 := by
  unfold u_Mv_note
  split
  · rw [rd_s]; rfl
  · rw [rd_s, rd_o (by omega)]; rfl
theorem nt_2 {w : MW} {x : Int32} : (u_Mv_note w x).2 = w.2 := by
  unfold u_Mv_note
  split <;> rfl
theorem mr_o' {w : MW} {x : Int32} {a : Nat} (h : a ≠ 62) (h2 : a ≠ 74) : (u_M_ran w x).1 a = w.1 a := by
  unfold u_M_ran
  split
  · rw [rd_o h]
  · rw [rd_o h, rd_o h2]
theorem mr_j {w : MW} {x : Int32} {j : Nat} (h : j ≠ 15) : (u_M_ran w x).1 62 j = w.1 62 j := by
  unfold u_M_ran
  split
  · rw [rd_j h]
  · rw [rd_j h, rd_o (by omega)]
theorem mr_15 {w : MW} {x : Int32} : (u_M_ran w x).1 62 15 = w.1 62 15 + nI 1 := by
  unfold u_M_ran
  split
  · rw [rd_s]; rfl
  · rw [rd_s, rd_o (by omega)]; rfl
theorem mr_2 {w : MW} {x : Int32} : (u_M_ran w x).2 = w.2 := by
  unfold u_M_ran
  split <;> rfl
theorem nt_t {w : MW} {t b : Nat} (e : w.1 60 1 = nI t) (ht : t < 20) (i : Nat) : (u_Mv_note w (nI b)).1 61 i = if i = t then nI b else w.1 61 i := by
  unfold u_Mv_note
  have h20 : ¬ (20 : Int32) ≤ nI t := nI_ge (a := t) (b := 20) ht (by omega)
  rw [e, if_neg h20, nI_clamp (by omega), rd_o (by omega), rd_ite]
  by_cases q : i = t
  · rw [if_pos ⟨rfl, q⟩, if_pos q]
  · rw [if_neg (fun z => q z.2), if_neg q]
theorem mr_t {w : MW} {t b : Nat} (e : w.1 62 15 = nI t) (ht : t < 20) (i : Nat) : (u_M_ran w (nI b)).1 74 i = if i = t then nI b else w.1 74 i := by
  unfold u_M_ran
  have h20 : ¬ (20 : Int32) ≤ nI t := nI_ge (a := t) (b := 20) ht (by omega)
  rw [e, if_neg h20, nI_clamp (by omega), rd_o (by omega), rd_ite]
  by_cases q : i = t
  · rw [if_pos ⟨rfl, q⟩, if_pos q]
  · rw [if_neg (fun z => q z.2), if_neg q]
theorem nts_f : ∀ (l : List Nat) (w : MW) (t : Nat), w.1 60 1 = nI t → t + l.length ≤ 20 → (nts w l).1 60 1 = nI (t + l.length) ∧ (∀ i, i < l.length → (nts w l).1 61 (t + i) = nI (l.getD i 0)) ∧ (∀ i, i < t → (nts w l).1 61 i = w.1 61 i) ∧ (∀ a, a ≠ 60 → a ≠ 61 → (nts w l).1 a = w.1 a) ∧ (∀ j, j ≠ 1 → (nts w l).1 60 j = w.1 60 j) ∧ (nts w l).2 = w.2 := by
  intro l
  induction l with
  | nil =>
    intro w t e _
    exact ⟨e, fun i hi => by simp at hi, fun _ _ => rfl, fun _ _ _ => rfl, fun _ _ => rfl, rfl⟩
  | cons b l ih =>
    intro w t e ht
    rw [List.length_cons] at ht
    have e1 : (u_Mv_note w (nI b)).1 60 1 = nI (t + 1) := by rw [nt_1, e, nI_add]
    obtain ⟨h1, h2, h3, h4, h5, h6⟩ := ih (u_Mv_note w (nI b)) (t + 1) e1 (by omega)
    rw [nts, List.length_cons]
    refine ⟨by rw [h1]; congr 1; omega, fun i hi => ?_, fun i hi => ?_, fun a q1 q2 => (h4 a q1 q2).trans (nt_o q1 q2), fun j q => (h5 j q).trans (nt_j q), h6.trans nt_2⟩
    · cases i with
      | zero =>
        rw [Nat.add_zero, h3 t (by omega), nt_t e (by omega), if_pos rfl]
        rfl
      | succ i =>
        have := h2 i (by omega)
        rw [show t + (i + 1) = t + 1 + i by omega, this]
        rfl
    · rw [h3 i (by omega), nt_t e (by omega), if_neg (by omega)]
theorem rns_f : ∀ (l : List Nat) (w : MW) (t : Nat), w.1 62 15 = nI t → t + l.length ≤ 20 → (rns w l).1 62 15 = nI (t + l.length) ∧ (∀ i, i < l.length → (rns w l).1 74 (t + i) = nI (l.getD i 0)) ∧ (∀ i, i < t → (rns w l).1 74 i = w.1 74 i) ∧ (∀ a, a ≠ 62 → a ≠ 74 → (rns w l).1 a = w.1 a) ∧ (∀ j, j ≠ 15 → (rns w l).1 62 j = w.1 62 j) ∧ (rns w l).2 = w.2 := by
  intro l
  induction l with
  | nil =>
    intro w t e _
    exact ⟨e, fun i hi => by simp at hi, fun _ _ => rfl, fun _ _ _ => rfl, fun _ _ => rfl, rfl⟩
  | cons b l ih =>
    intro w t e ht
    rw [List.length_cons] at ht
    have e1 : (u_M_ran w (nI b)).1 62 15 = nI (t + 1) := by rw [mr_15, e, nI_add]
    obtain ⟨h1, h2, h3, h4, h5, h6⟩ := ih (u_M_ran w (nI b)) (t + 1) e1 (by omega)
    rw [rns, List.length_cons]
    refine ⟨by rw [h1]; congr 1; omega, fun i hi => ?_, fun i hi => ?_, fun a q1 q2 => (h4 a q1 q2).trans (mr_o' q1 q2), fun j q => (h5 j q).trans (mr_j q), h6.trans mr_2⟩
    · cases i with
      | zero =>
        rw [Nat.add_zero, h3 t (by omega), mr_t e (by omega), if_pos rfl]
        rfl
      | succ i =>
        have := h2 i (by omega)
        rw [show t + (i + 1) = t + 1 + i by omega, this]
        rfl
    · rw [h3 i (by omega), mr_t e (by omega), if_neg (by omega)]
/-- what a move needs of the world -/
def MV (w : MW) (k a m t : Nat) : Prop := (∀ j, j < 7 → w.1 81 j = ABV.getD j 0) ∧ (∀ j, j < 21 → w.1 82 j = BDS.getD j 0) ∧ w.1 60 2 = nI m ∧ w.1 60 3 = nI k ∧ w.1 60 4 = nI a ∧ w.1 60 1 = nI t
theorem MV.nt {w : MW} {k a m t b : Nat} (h : MV w k a m t) : MV (u_Mv_note w (nI b)) k a m (t + 1) := by
  obtain ⟨h1, h2, h3, h4, h5, h6⟩ := h
  exact ⟨fun j hj => by rw [nt_o (by omega) (by omega)]; exact h1 j hj, fun j hj => by rw [nt_o (by omega) (by omega)]; exact h2 j hj, by rw [nt_j (by omega)]; exact h3, by rw [nt_j (by omega)]; exact h4, by rw [nt_j (by omega)]; exact h5, by rw [nt_1, h6, nI_add]⟩
theorem own_y {w : MW} {n k mv x b : Nat} (hk : k < 7) (hm : mv < 3) (hx : x < 7) (hb : w.1 82 (3 * k + mv) = nI b) (h0 : 0 < b) (hb2 : b < 100) : f_Mv_ownerOf_4 (n + 1) w (nI mv) (nI k) (nI x) = some (some (.int (nI k)), w) := by
  rw [f_Mv_ownerOf_4, isKd_g hk]
  simp (disch := omega) only [k0, k1, k2, k3, k4, k5, k6, k7, k8, k9, k10, k12, k20, k30, k31, k40, k99, k160, ite_self, nI_add, nI_leI, nI_ltI, nI_eq, nI_clamp, nI_sub', nI_mul, vpb_n, eq_self, implies_true, grd_t, grd_i, if_pos, if_neg, bI_k, bV_k, bx0, bx1, mh0, mh1, rd_s, rd_o, rd_j, rd_2k, rdL_1k, ↓reduceIte, Bool.false_eq_true, Bool.true_eq_false, Nat.add_eq, Nat.zero_add, Nat.add_zero, not_true_eq_false, not_false_eq_true, hb]
theorem own_n {w : MW} {n k mv x : Nat} {v : Int32} (hk : k < 7) (hm : mv < 3) (hx : x < 7) (hb : w.1 82 (3 * k + mv) = nI 0) (hv : w.1 81 k = v) : f_Mv_ownerOf_4 (n + 1) w (nI mv) (nI k) (nI x) = f_Mv_ownerOf_4 n w (nI mv) v (nI (x + 1)) := by
  rw [f_Mv_ownerOf_4, isKd_g hk]
  simp (disch := omega) only [k0, k1, k2, k3, k4, k5, k6, k7, k8, k9, k10, k12, k20, k30, k31, k40, k99, k160, ite_self, nI_add, nI_leI, nI_ltI, nI_eq, nI_clamp, nI_sub', nI_mul, vpb_n, eq_self, implies_true, grd_t, grd_i, if_pos, if_neg, bI_k, bV_k, bx0, bx1, mh0, mh1, rd_s, rd_o, rd_j, rd_2k, rdL_1k, ↓reduceIte, Bool.false_eq_true, Bool.true_eq_false, Nat.add_eq, Nat.zero_add, Nat.add_zero, not_true_eq_false, not_false_eq_true, hb, hv]

theorem ow_0_0 {w : MW} (h1 : ∀ j, j < 7 → w.1 81 j = ABV.getD j 0) (h2 : ∀ j, j < 21 → w.1 82 j = BDS.getD j 0) : f_Mv_ownerOf w (nI 0) (nI 0) = some (some (.int (nI 0)), w) := by
  show f_Mv_ownerOf_4 (996 + 1 + 1 + 1 + 1) w (nI 0) (nI 0) (nI 0) = _
  rw [own_y (k := 0) (mv := 0) (b := 10) (by omega) (by omega) (by omega) (h2 0 (by omega)) (by omega) (by omega)]
theorem ow_0_1 {w : MW} (h1 : ∀ j, j < 7 → w.1 81 j = ABV.getD j 0) (h2 : ∀ j, j < 21 → w.1 82 j = BDS.getD j 0) : f_Mv_ownerOf w (nI 0) (nI 1) = some (some (.int (nI 0)), w) := by
  show f_Mv_ownerOf_4 (996 + 1 + 1 + 1 + 1) w (nI 1) (nI 0) (nI 0) = _
  rw [own_y (k := 0) (mv := 1) (b := 11) (by omega) (by omega) (by omega) (h2 1 (by omega)) (by omega) (by omega)]
theorem ow_0_2 {w : MW} (h1 : ∀ j, j < 7 → w.1 81 j = ABV.getD j 0) (h2 : ∀ j, j < 21 → w.1 82 j = BDS.getD j 0) : f_Mv_ownerOf w (nI 0) (nI 2) = some (some (.int (nI 0)), w) := by
  show f_Mv_ownerOf_4 (996 + 1 + 1 + 1 + 1) w (nI 2) (nI 0) (nI 0) = _
  rw [own_y (k := 0) (mv := 2) (b := 12) (by omega) (by omega) (by omega) (h2 2 (by omega)) (by omega) (by omega)]
theorem ow_1_0 {w : MW} (h1 : ∀ j, j < 7 → w.1 81 j = ABV.getD j 0) (h2 : ∀ j, j < 21 → w.1 82 j = BDS.getD j 0) : f_Mv_ownerOf w (nI 1) (nI 0) = some (some (.int (nI 1)), w) := by
  show f_Mv_ownerOf_4 (996 + 1 + 1 + 1 + 1) w (nI 0) (nI 1) (nI 0) = _
  rw [own_y (k := 1) (mv := 0) (b := 20) (by omega) (by omega) (by omega) (h2 3 (by omega)) (by omega) (by omega)]
theorem ow_1_1 {w : MW} (h1 : ∀ j, j < 7 → w.1 81 j = ABV.getD j 0) (h2 : ∀ j, j < 21 → w.1 82 j = BDS.getD j 0) : f_Mv_ownerOf w (nI 1) (nI 1) = some (some (.int (nI 0)), w) := by
  show f_Mv_ownerOf_4 (996 + 1 + 1 + 1 + 1) w (nI 1) (nI 1) (nI 0) = _
  rw [own_n (k := 1) (mv := 1) (v := nI 0) (by omega) (by omega) (by omega) (h2 4 (by omega)) (h1 1 (by omega)), own_y (k := 0) (mv := 1) (b := 11) (by omega) (by omega) (by omega) (h2 1 (by omega)) (by omega) (by omega)]
theorem ow_1_2 {w : MW} (h1 : ∀ j, j < 7 → w.1 81 j = ABV.getD j 0) (h2 : ∀ j, j < 21 → w.1 82 j = BDS.getD j 0) : f_Mv_ownerOf w (nI 1) (nI 2) = some (some (.int (nI 0)), w) := by
  show f_Mv_ownerOf_4 (996 + 1 + 1 + 1 + 1) w (nI 2) (nI 1) (nI 0) = _
  rw [own_n (k := 1) (mv := 2) (v := nI 0) (by omega) (by omega) (by omega) (h2 5 (by omega)) (h1 1 (by omega)), own_y (k := 0) (mv := 2) (b := 12) (by omega) (by omega) (by omega) (h2 2 (by omega)) (by omega) (by omega)]
theorem ow_2_0 {w : MW} (h1 : ∀ j, j < 7 → w.1 81 j = ABV.getD j 0) (h2 : ∀ j, j < 21 → w.1 82 j = BDS.getD j 0) : f_Mv_ownerOf w (nI 2) (nI 0) = some (some (.int (nI 0)), w) := by
  show f_Mv_ownerOf_4 (996 + 1 + 1 + 1 + 1) w (nI 0) (nI 2) (nI 0) = _
  rw [own_n (k := 2) (mv := 0) (v := nI 0) (by omega) (by omega) (by omega) (h2 6 (by omega)) (h1 2 (by omega)), own_y (k := 0) (mv := 0) (b := 10) (by omega) (by omega) (by omega) (h2 0 (by omega)) (by omega) (by omega)]
theorem ow_2_1 {w : MW} (h1 : ∀ j, j < 7 → w.1 81 j = ABV.getD j 0) (h2 : ∀ j, j < 21 → w.1 82 j = BDS.getD j 0) : f_Mv_ownerOf w (nI 2) (nI 1) = some (some (.int (nI 2)), w) := by
  show f_Mv_ownerOf_4 (996 + 1 + 1 + 1 + 1) w (nI 1) (nI 2) (nI 0) = _
  rw [own_y (k := 2) (mv := 1) (b := 30) (by omega) (by omega) (by omega) (h2 7 (by omega)) (by omega) (by omega)]
theorem ow_2_2 {w : MW} (h1 : ∀ j, j < 7 → w.1 81 j = ABV.getD j 0) (h2 : ∀ j, j < 21 → w.1 82 j = BDS.getD j 0) : f_Mv_ownerOf w (nI 2) (nI 2) = some (some (.int (nI 0)), w) := by
  show f_Mv_ownerOf_4 (996 + 1 + 1 + 1 + 1) w (nI 2) (nI 2) (nI 0) = _
  rw [own_n (k := 2) (mv := 2) (v := nI 0) (by omega) (by omega) (by omega) (h2 8 (by omega)) (h1 2 (by omega)), own_y (k := 0) (mv := 2) (b := 12) (by omega) (by omega) (by omega) (h2 2 (by omega)) (by omega) (by omega)]
theorem ow_3_0 {w : MW} (h1 : ∀ j, j < 7 → w.1 81 j = ABV.getD j 0) (h2 : ∀ j, j < 21 → w.1 82 j = BDS.getD j 0) : f_Mv_ownerOf w (nI 3) (nI 0) = some (some (.int (nI 1)), w) := by
  show f_Mv_ownerOf_4 (996 + 1 + 1 + 1 + 1) w (nI 0) (nI 3) (nI 0) = _
  rw [own_n (k := 3) (mv := 0) (v := nI 1) (by omega) (by omega) (by omega) (h2 9 (by omega)) (h1 3 (by omega)), own_y (k := 1) (mv := 0) (b := 20) (by omega) (by omega) (by omega) (h2 3 (by omega)) (by omega) (by omega)]
theorem ow_3_1 {w : MW} (h1 : ∀ j, j < 7 → w.1 81 j = ABV.getD j 0) (h2 : ∀ j, j < 21 → w.1 82 j = BDS.getD j 0) : f_Mv_ownerOf w (nI 3) (nI 1) = some (some (.int (nI 3)), w) := by
  show f_Mv_ownerOf_4 (996 + 1 + 1 + 1 + 1) w (nI 1) (nI 3) (nI 0) = _
  rw [own_y (k := 3) (mv := 1) (b := 40) (by omega) (by omega) (by omega) (h2 10 (by omega)) (by omega) (by omega)]
theorem ow_3_2 {w : MW} (h1 : ∀ j, j < 7 → w.1 81 j = ABV.getD j 0) (h2 : ∀ j, j < 21 → w.1 82 j = BDS.getD j 0) : f_Mv_ownerOf w (nI 3) (nI 2) = some (some (.int (nI 0)), w) := by
  show f_Mv_ownerOf_4 (996 + 1 + 1 + 1 + 1) w (nI 2) (nI 3) (nI 0) = _
  rw [own_n (k := 3) (mv := 2) (v := nI 1) (by omega) (by omega) (by omega) (h2 11 (by omega)) (h1 3 (by omega)), own_n (k := 1) (mv := 2) (v := nI 0) (by omega) (by omega) (by omega) (h2 5 (by omega)) (h1 1 (by omega)), own_y (k := 0) (mv := 2) (b := 12) (by omega) (by omega) (by omega) (h2 2 (by omega)) (by omega) (by omega)]
theorem ow_4_0 {w : MW} (h1 : ∀ j, j < 7 → w.1 81 j = ABV.getD j 0) (h2 : ∀ j, j < 21 → w.1 82 j = BDS.getD j 0) : f_Mv_ownerOf w (nI 4) (nI 0) = some (some (.int (nI 4)), w) := by
  show f_Mv_ownerOf_4 (996 + 1 + 1 + 1 + 1) w (nI 0) (nI 4) (nI 0) = _
  rw [own_y (k := 4) (mv := 0) (b := 51) (by omega) (by omega) (by omega) (h2 12 (by omega)) (by omega) (by omega)]
theorem ow_4_1 {w : MW} (h1 : ∀ j, j < 7 → w.1 81 j = ABV.getD j 0) (h2 : ∀ j, j < 21 → w.1 82 j = BDS.getD j 0) : f_Mv_ownerOf w (nI 4) (nI 1) = some (some (.int (nI 0)), w) := by
  show f_Mv_ownerOf_4 (996 + 1 + 1 + 1 + 1) w (nI 1) (nI 4) (nI 0) = _
  rw [own_n (k := 4) (mv := 1) (v := nI 0) (by omega) (by omega) (by omega) (h2 13 (by omega)) (h1 4 (by omega)), own_y (k := 0) (mv := 1) (b := 11) (by omega) (by omega) (by omega) (h2 1 (by omega)) (by omega) (by omega)]
theorem ow_4_2 {w : MW} (h1 : ∀ j, j < 7 → w.1 81 j = ABV.getD j 0) (h2 : ∀ j, j < 21 → w.1 82 j = BDS.getD j 0) : f_Mv_ownerOf w (nI 4) (nI 2) = some (some (.int (nI 4)), w) := by
  show f_Mv_ownerOf_4 (996 + 1 + 1 + 1 + 1) w (nI 2) (nI 4) (nI 0) = _
  rw [own_y (k := 4) (mv := 2) (b := 50) (by omega) (by omega) (by omega) (h2 14 (by omega)) (by omega) (by omega)]
theorem ow_5_0 {w : MW} (h1 : ∀ j, j < 7 → w.1 81 j = ABV.getD j 0) (h2 : ∀ j, j < 21 → w.1 82 j = BDS.getD j 0) : f_Mv_ownerOf w (nI 5) (nI 0) = some (some (.int (nI 0)), w) := by
  show f_Mv_ownerOf_4 (996 + 1 + 1 + 1 + 1) w (nI 0) (nI 5) (nI 0) = _
  rw [own_n (k := 5) (mv := 0) (v := nI 2) (by omega) (by omega) (by omega) (h2 15 (by omega)) (h1 5 (by omega)), own_n (k := 2) (mv := 0) (v := nI 0) (by omega) (by omega) (by omega) (h2 6 (by omega)) (h1 2 (by omega)), own_y (k := 0) (mv := 0) (b := 10) (by omega) (by omega) (by omega) (h2 0 (by omega)) (by omega) (by omega)]
theorem ow_5_1 {w : MW} (h1 : ∀ j, j < 7 → w.1 81 j = ABV.getD j 0) (h2 : ∀ j, j < 21 → w.1 82 j = BDS.getD j 0) : f_Mv_ownerOf w (nI 5) (nI 1) = some (some (.int (nI 2)), w) := by
  show f_Mv_ownerOf_4 (996 + 1 + 1 + 1 + 1) w (nI 1) (nI 5) (nI 0) = _
  rw [own_n (k := 5) (mv := 1) (v := nI 2) (by omega) (by omega) (by omega) (h2 16 (by omega)) (h1 5 (by omega)), own_y (k := 2) (mv := 1) (b := 30) (by omega) (by omega) (by omega) (h2 7 (by omega)) (by omega) (by omega)]
theorem ow_5_2 {w : MW} (h1 : ∀ j, j < 7 → w.1 81 j = ABV.getD j 0) (h2 : ∀ j, j < 21 → w.1 82 j = BDS.getD j 0) : f_Mv_ownerOf w (nI 5) (nI 2) = some (some (.int (nI 5)), w) := by
  show f_Mv_ownerOf_4 (996 + 1 + 1 + 1 + 1) w (nI 2) (nI 5) (nI 0) = _
  rw [own_y (k := 5) (mv := 2) (b := 60) (by omega) (by omega) (by omega) (h2 17 (by omega)) (by omega) (by omega)]
theorem ow_6_0 {w : MW} (h1 : ∀ j, j < 7 → w.1 81 j = ABV.getD j 0) (h2 : ∀ j, j < 21 → w.1 82 j = BDS.getD j 0) : f_Mv_ownerOf w (nI 6) (nI 0) = some (some (.int (nI 6)), w) := by
  show f_Mv_ownerOf_4 (996 + 1 + 1 + 1 + 1) w (nI 0) (nI 6) (nI 0) = _
  rw [own_y (k := 6) (mv := 0) (b := 70) (by omega) (by omega) (by omega) (h2 18 (by omega)) (by omega) (by omega)]
theorem ow_6_1 {w : MW} (h1 : ∀ j, j < 7 → w.1 81 j = ABV.getD j 0) (h2 : ∀ j, j < 21 → w.1 82 j = BDS.getD j 0) : f_Mv_ownerOf w (nI 6) (nI 1) = some (some (.int (nI 6)), w) := by
  show f_Mv_ownerOf_4 (996 + 1 + 1 + 1 + 1) w (nI 1) (nI 6) (nI 0) = _
  rw [own_y (k := 6) (mv := 1) (b := 71) (by omega) (by omega) (by omega) (h2 19 (by omega)) (by omega) (by omega)]
theorem ow_6_2 {w : MW} (h1 : ∀ j, j < 7 → w.1 81 j = ABV.getD j 0) (h2 : ∀ j, j < 21 → w.1 82 j = BDS.getD j 0) : f_Mv_ownerOf w (nI 6) (nI 2) = some (some (.int (nI 4)), w) := by
  show f_Mv_ownerOf_4 (996 + 1 + 1 + 1 + 1) w (nI 2) (nI 6) (nI 0) = _
  rw [own_n (k := 6) (mv := 2) (v := nI 4) (by omega) (by omega) (by omega) (h2 20 (by omega)) (h1 6 (by omega)), own_y (k := 4) (mv := 2) (b := 50) (by omega) (by omega) (by omega) (h2 14 (by omega)) (by omega) (by omega)]
theorem k11' : (11 : Int32) = nI 11 := by decide
theorem k50 : (50 : Int32) = nI 50 := by decide
theorem k51 : (51 : Int32) = nI 51 := by decide
theorem k70 : (70 : Int32) = nI 70 := by decide
theorem k71 : (71 : Int32) = nI 71 := by decide
theorem k60' : (60 : Int32) = nI 60 := by decide
theorem neg_nI1 : (-1 : Int32) = -nI 1 := by decide
theorem rn_0_0 {w : MW} {n k a m t d : Nat} {x : Int32} (h : MV w k a m t) (ht : t < 20) (hd : d ≤ 40) : f_Mv_runN (n + 1) w (nI 0) (nI 0) x (nI d) = some (some (.int (x + nI m)), (u_Mv_note w (nI 10))) := by
  obtain ⟨h1, h2, h3, h4, h5, h6⟩ := h
  have eb : w.1 82 (3 * 0 + 0) = nI 10 := h2 0 (by omega)
  have ea : w.1 81 0 = -nI 1 := h1 0 (by omega)
  have e2 : (u_Mv_note w (nI 10)).1 60 2 = nI m := by rw [nt_j (by omega)]; exact h3
  have e3 : (u_Mv_note w (nI 10)).1 60 3 = nI k := by rw [nt_j (by omega)]; exact h4
  have e4 : (u_Mv_note w (nI 10)).1 60 4 = nI a := by rw [nt_j (by omega)]; exact h5
  have ei : (3 : Int32) * nI 0 + nI 0 = nI 0 := by decide
  rw [f_Mv_runN, ow_0_0 h1 h2, bI_k, ei, nI_clamp (n := 0) (by omega), eb]
  rw [if_neg (show ¬ nI 0 = (-1 : Int32) from nI_ne_m1 (by omega)), if_pos (show nI d ≤ (40 : Int32) from nI_le (a := d) (b := 40) hd (by omega)), grd_i (vpb_n (by omega) (by omega)), grd_i (vpb_n (by omega) (by omega)), grd_i (fun _ => by rw [h6]; exact vpb_n ht (by omega))]
  rw [if_pos (show nI 10 = (10 : Int32) from rfl)]
  rw [e2]
theorem rn_0_1 {w : MW} {n k a m t d : Nat} {x : Int32} (h : MV w k a m t) (ht : t < 20) (hd : d ≤ 40) : f_Mv_runN (n + 1) w (nI 0) (nI 1) x (nI d) = bI (f_Mv_runN n (u_Mv_note w (nI 11)) (nI k) (nI 0) x (nI (d + 1))) (fun v w' => some (some (.int (v * nI 2)), w')) := by
  obtain ⟨h1, h2, h3, h4, h5, h6⟩ := h
  have eb : w.1 82 (3 * 0 + 1) = nI 11 := h2 1 (by omega)
  have ea : w.1 81 0 = -nI 1 := h1 0 (by omega)
  have e2 : (u_Mv_note w (nI 11)).1 60 2 = nI m := by rw [nt_j (by omega)]; exact h3
  have e3 : (u_Mv_note w (nI 11)).1 60 3 = nI k := by rw [nt_j (by omega)]; exact h4
  have e4 : (u_Mv_note w (nI 11)).1 60 4 = nI a := by rw [nt_j (by omega)]; exact h5
  have ei : (3 : Int32) * nI 0 + nI 1 = nI 1 := by decide
  rw [f_Mv_runN, ow_0_1 h1 h2, bI_k, ei, nI_clamp (n := 1) (by omega), eb]
  rw [if_neg (show ¬ nI 0 = (-1 : Int32) from nI_ne_m1 (by omega)), if_pos (show nI d ≤ (40 : Int32) from nI_le (a := d) (b := 40) hd (by omega)), grd_i (vpb_n (by omega) (by omega)), grd_i (vpb_n (by omega) (by omega)), grd_i (fun _ => by rw [h6]; exact vpb_n ht (by omega))]
  rw [if_neg (show ¬ nI 11 = (10 : Int32) by decide), if_pos (show nI 11 = (11 : Int32) from rfl)]
  rw [e3, nI_1]
  rfl
theorem rn_0_2 {w : MW} {n k a m t d : Nat} {x : Int32} (h : MV w k a m t) (ht : t < 20) (hd : d ≤ 40) : f_Mv_runN (n + 1) w (nI 0) (nI 2) x (nI d) = bI (f_Mv_runN n (u_Mv_note w (nI 12)) (nI k) (nI 1) x (nI (d + 1))) (fun v w' => bI (f_Mv_runN n w' (w'.1 60 3) (nI 0) (x - w'.1 60 4) (nI (d + 1))) (fun v' w'' => some (some (.int (v ^^^ v')), w''))) := by
  obtain ⟨h1, h2, h3, h4, h5, h6⟩ := h
  have eb : w.1 82 (3 * 0 + 2) = nI 12 := h2 2 (by omega)
  have ea : w.1 81 0 = -nI 1 := h1 0 (by omega)
  have e2 : (u_Mv_note w (nI 12)).1 60 2 = nI m := by rw [nt_j (by omega)]; exact h3
  have e3 : (u_Mv_note w (nI 12)).1 60 3 = nI k := by rw [nt_j (by omega)]; exact h4
  have e4 : (u_Mv_note w (nI 12)).1 60 4 = nI a := by rw [nt_j (by omega)]; exact h5
  have ei : (3 : Int32) * nI 0 + nI 2 = nI 2 := by decide
  rw [f_Mv_runN, ow_0_2 h1 h2, bI_k, ei, nI_clamp (n := 2) (by omega), eb]
  rw [if_neg (show ¬ nI 0 = (-1 : Int32) from nI_ne_m1 (by omega)), if_pos (show nI d ≤ (40 : Int32) from nI_le (a := d) (b := 40) hd (by omega)), grd_i (vpb_n (by omega) (by omega)), grd_i (vpb_n (by omega) (by omega)), grd_i (fun _ => by rw [h6]; exact vpb_n ht (by omega))]
  rw [if_neg (show ¬ nI 12 = (10 : Int32) by decide), if_neg (show ¬ nI 12 = (11 : Int32) by decide), if_pos (show nI 12 = (12 : Int32) from rfl)]
  rw [e3, nI_1]
  rfl
theorem rn_1_0 {w : MW} {n k a m t d : Nat} {x : Int32} (h : MV w k a m t) (ht : t < 20) (hd : d ≤ 40) : f_Mv_runN (n + 1) w (nI 1) (nI 0) x (nI d) = bI (f_Mv_runN n (u_Mv_note w (nI 20)) (nI 0) (nI 0) x (nI (d + 1))) (fun v w' => some (some (.int (v + w'.1 60 4)), w')) := by
  obtain ⟨h1, h2, h3, h4, h5, h6⟩ := h
  have eb : w.1 82 (3 * 1 + 0) = nI 20 := h2 3 (by omega)
  have ea : w.1 81 1 = nI 0 := h1 1 (by omega)
  have e2 : (u_Mv_note w (nI 20)).1 60 2 = nI m := by rw [nt_j (by omega)]; exact h3
  have e3 : (u_Mv_note w (nI 20)).1 60 3 = nI k := by rw [nt_j (by omega)]; exact h4
  have e4 : (u_Mv_note w (nI 20)).1 60 4 = nI a := by rw [nt_j (by omega)]; exact h5
  have ei : (3 : Int32) * nI 1 + nI 0 = nI 3 := by decide
  rw [f_Mv_runN, ow_1_0 h1 h2, bI_k, ei, nI_clamp (n := 3) (by omega), eb]
  rw [if_neg (show ¬ nI 1 = (-1 : Int32) from nI_ne_m1 (by omega)), if_pos (show nI d ≤ (40 : Int32) from nI_le (a := d) (b := 40) hd (by omega)), grd_i (vpb_n (by omega) (by omega)), grd_i (vpb_n (by omega) (by omega)), grd_i (fun _ => by rw [h6]; exact vpb_n ht (by omega))]
  rw [if_neg (show ¬ nI 20 = (10 : Int32) by decide), if_neg (show ¬ nI 20 = (11 : Int32) by decide), if_neg (show ¬ nI 20 = (12 : Int32) by decide), if_pos (show nI 20 = (20 : Int32) from rfl)]
  rw [nI_clamp (n := 1) (by omega), ea, nI_1]
  rfl
theorem rn_1_1 {w : MW} {n k a m t d : Nat} {x : Int32} (h : MV w k a m t) (ht : t < 20) (hd : d ≤ 40) : f_Mv_runN (n + 1) w (nI 1) (nI 1) x (nI d) = bI (f_Mv_runN n (u_Mv_note w (nI 11)) (nI k) (nI 0) x (nI (d + 1))) (fun v w' => some (some (.int (v * nI 2)), w')) := by
  obtain ⟨h1, h2, h3, h4, h5, h6⟩ := h
  have eb : w.1 82 (3 * 0 + 1) = nI 11 := h2 1 (by omega)
  have ea : w.1 81 0 = -nI 1 := h1 0 (by omega)
  have e2 : (u_Mv_note w (nI 11)).1 60 2 = nI m := by rw [nt_j (by omega)]; exact h3
  have e3 : (u_Mv_note w (nI 11)).1 60 3 = nI k := by rw [nt_j (by omega)]; exact h4
  have e4 : (u_Mv_note w (nI 11)).1 60 4 = nI a := by rw [nt_j (by omega)]; exact h5
  have ei : (3 : Int32) * nI 0 + nI 1 = nI 1 := by decide
  rw [f_Mv_runN, ow_1_1 h1 h2, bI_k, ei, nI_clamp (n := 1) (by omega), eb]
  rw [if_neg (show ¬ nI 0 = (-1 : Int32) from nI_ne_m1 (by omega)), if_pos (show nI d ≤ (40 : Int32) from nI_le (a := d) (b := 40) hd (by omega)), grd_i (vpb_n (by omega) (by omega)), grd_i (vpb_n (by omega) (by omega)), grd_i (fun _ => by rw [h6]; exact vpb_n ht (by omega))]
  rw [if_neg (show ¬ nI 11 = (10 : Int32) by decide), if_pos (show nI 11 = (11 : Int32) from rfl)]
  rw [e3, nI_1]
  rfl
theorem rn_1_2 {w : MW} {n k a m t d : Nat} {x : Int32} (h : MV w k a m t) (ht : t < 20) (hd : d ≤ 40) : f_Mv_runN (n + 1) w (nI 1) (nI 2) x (nI d) = bI (f_Mv_runN n (u_Mv_note w (nI 12)) (nI k) (nI 1) x (nI (d + 1))) (fun v w' => bI (f_Mv_runN n w' (w'.1 60 3) (nI 0) (x - w'.1 60 4) (nI (d + 1))) (fun v' w'' => some (some (.int (v ^^^ v')), w''))) := by
  obtain ⟨h1, h2, h3, h4, h5, h6⟩ := h
  have eb : w.1 82 (3 * 0 + 2) = nI 12 := h2 2 (by omega)
  have ea : w.1 81 0 = -nI 1 := h1 0 (by omega)
  have e2 : (u_Mv_note w (nI 12)).1 60 2 = nI m := by rw [nt_j (by omega)]; exact h3
  have e3 : (u_Mv_note w (nI 12)).1 60 3 = nI k := by rw [nt_j (by omega)]; exact h4
  have e4 : (u_Mv_note w (nI 12)).1 60 4 = nI a := by rw [nt_j (by omega)]; exact h5
  have ei : (3 : Int32) * nI 0 + nI 2 = nI 2 := by decide
  rw [f_Mv_runN, ow_1_2 h1 h2, bI_k, ei, nI_clamp (n := 2) (by omega), eb]
  rw [if_neg (show ¬ nI 0 = (-1 : Int32) from nI_ne_m1 (by omega)), if_pos (show nI d ≤ (40 : Int32) from nI_le (a := d) (b := 40) hd (by omega)), grd_i (vpb_n (by omega) (by omega)), grd_i (vpb_n (by omega) (by omega)), grd_i (fun _ => by rw [h6]; exact vpb_n ht (by omega))]
  rw [if_neg (show ¬ nI 12 = (10 : Int32) by decide), if_neg (show ¬ nI 12 = (11 : Int32) by decide), if_pos (show nI 12 = (12 : Int32) from rfl)]
  rw [e3, nI_1]
  rfl
theorem rn_2_0 {w : MW} {n k a m t d : Nat} {x : Int32} (h : MV w k a m t) (ht : t < 20) (hd : d ≤ 40) : f_Mv_runN (n + 1) w (nI 2) (nI 0) x (nI d) = some (some (.int (x + nI m)), (u_Mv_note w (nI 10))) := by
  obtain ⟨h1, h2, h3, h4, h5, h6⟩ := h
  have eb : w.1 82 (3 * 0 + 0) = nI 10 := h2 0 (by omega)
  have ea : w.1 81 0 = -nI 1 := h1 0 (by omega)
  have e2 : (u_Mv_note w (nI 10)).1 60 2 = nI m := by rw [nt_j (by omega)]; exact h3
  have e3 : (u_Mv_note w (nI 10)).1 60 3 = nI k := by rw [nt_j (by omega)]; exact h4
  have e4 : (u_Mv_note w (nI 10)).1 60 4 = nI a := by rw [nt_j (by omega)]; exact h5
  have ei : (3 : Int32) * nI 0 + nI 0 = nI 0 := by decide
  rw [f_Mv_runN, ow_2_0 h1 h2, bI_k, ei, nI_clamp (n := 0) (by omega), eb]
  rw [if_neg (show ¬ nI 0 = (-1 : Int32) from nI_ne_m1 (by omega)), if_pos (show nI d ≤ (40 : Int32) from nI_le (a := d) (b := 40) hd (by omega)), grd_i (vpb_n (by omega) (by omega)), grd_i (vpb_n (by omega) (by omega)), grd_i (fun _ => by rw [h6]; exact vpb_n ht (by omega))]
  rw [if_pos (show nI 10 = (10 : Int32) from rfl)]
  rw [e2]
theorem rn_2_1 {w : MW} {n k a m t d : Nat} {x : Int32} (h : MV w k a m t) (ht : t < 20) (hd : d ≤ 40) : f_Mv_runN (n + 1) w (nI 2) (nI 1) x (nI d) = bI (f_Mv_runN n (u_Mv_note w (nI 30)) (nI 0) (nI 1) x (nI (d + 1))) (fun v w' => some (some (.int (v * nI 3)), w')) := by
  obtain ⟨h1, h2, h3, h4, h5, h6⟩ := h
  have eb : w.1 82 (3 * 2 + 1) = nI 30 := h2 7 (by omega)
  have ea : w.1 81 2 = nI 0 := h1 2 (by omega)
  have e2 : (u_Mv_note w (nI 30)).1 60 2 = nI m := by rw [nt_j (by omega)]; exact h3
  have e3 : (u_Mv_note w (nI 30)).1 60 3 = nI k := by rw [nt_j (by omega)]; exact h4
  have e4 : (u_Mv_note w (nI 30)).1 60 4 = nI a := by rw [nt_j (by omega)]; exact h5
  have ei : (3 : Int32) * nI 2 + nI 1 = nI 7 := by decide
  rw [f_Mv_runN, ow_2_1 h1 h2, bI_k, ei, nI_clamp (n := 7) (by omega), eb]
  rw [if_neg (show ¬ nI 2 = (-1 : Int32) from nI_ne_m1 (by omega)), if_pos (show nI d ≤ (40 : Int32) from nI_le (a := d) (b := 40) hd (by omega)), grd_i (vpb_n (by omega) (by omega)), grd_i (vpb_n (by omega) (by omega)), grd_i (fun _ => by rw [h6]; exact vpb_n ht (by omega))]
  rw [if_neg (show ¬ nI 30 = (10 : Int32) by decide), if_neg (show ¬ nI 30 = (11 : Int32) by decide), if_neg (show ¬ nI 30 = (12 : Int32) by decide), if_neg (show ¬ nI 30 = (20 : Int32) by decide), if_pos (show nI 30 = (30 : Int32) from rfl)]
  rw [nI_clamp (n := 2) (by omega), ea, nI_1]
  rfl
theorem rn_2_2 {w : MW} {n k a m t d : Nat} {x : Int32} (h : MV w k a m t) (ht : t < 20) (hd : d ≤ 40) : f_Mv_runN (n + 1) w (nI 2) (nI 2) x (nI d) = bI (f_Mv_runN n (u_Mv_note w (nI 12)) (nI k) (nI 1) x (nI (d + 1))) (fun v w' => bI (f_Mv_runN n w' (w'.1 60 3) (nI 0) (x - w'.1 60 4) (nI (d + 1))) (fun v' w'' => some (some (.int (v ^^^ v')), w''))) := by
  obtain ⟨h1, h2, h3, h4, h5, h6⟩ := h
  have eb : w.1 82 (3 * 0 + 2) = nI 12 := h2 2 (by omega)
  have ea : w.1 81 0 = -nI 1 := h1 0 (by omega)
  have e2 : (u_Mv_note w (nI 12)).1 60 2 = nI m := by rw [nt_j (by omega)]; exact h3
  have e3 : (u_Mv_note w (nI 12)).1 60 3 = nI k := by rw [nt_j (by omega)]; exact h4
  have e4 : (u_Mv_note w (nI 12)).1 60 4 = nI a := by rw [nt_j (by omega)]; exact h5
  have ei : (3 : Int32) * nI 0 + nI 2 = nI 2 := by decide
  rw [f_Mv_runN, ow_2_2 h1 h2, bI_k, ei, nI_clamp (n := 2) (by omega), eb]
  rw [if_neg (show ¬ nI 0 = (-1 : Int32) from nI_ne_m1 (by omega)), if_pos (show nI d ≤ (40 : Int32) from nI_le (a := d) (b := 40) hd (by omega)), grd_i (vpb_n (by omega) (by omega)), grd_i (vpb_n (by omega) (by omega)), grd_i (fun _ => by rw [h6]; exact vpb_n ht (by omega))]
  rw [if_neg (show ¬ nI 12 = (10 : Int32) by decide), if_neg (show ¬ nI 12 = (11 : Int32) by decide), if_pos (show nI 12 = (12 : Int32) from rfl)]
  rw [e3, nI_1]
  rfl
theorem rn_3_0 {w : MW} {n k a m t d : Nat} {x : Int32} (h : MV w k a m t) (ht : t < 20) (hd : d ≤ 40) : f_Mv_runN (n + 1) w (nI 3) (nI 0) x (nI d) = bI (f_Mv_runN n (u_Mv_note w (nI 20)) (nI 0) (nI 0) x (nI (d + 1))) (fun v w' => some (some (.int (v + w'.1 60 4)), w')) := by
  obtain ⟨h1, h2, h3, h4, h5, h6⟩ := h
  have eb : w.1 82 (3 * 1 + 0) = nI 20 := h2 3 (by omega)
  have ea : w.1 81 1 = nI 0 := h1 1 (by omega)
  have e2 : (u_Mv_note w (nI 20)).1 60 2 = nI m := by rw [nt_j (by omega)]; exact h3
  have e3 : (u_Mv_note w (nI 20)).1 60 3 = nI k := by rw [nt_j (by omega)]; exact h4
  have e4 : (u_Mv_note w (nI 20)).1 60 4 = nI a := by rw [nt_j (by omega)]; exact h5
  have ei : (3 : Int32) * nI 1 + nI 0 = nI 3 := by decide
  rw [f_Mv_runN, ow_3_0 h1 h2, bI_k, ei, nI_clamp (n := 3) (by omega), eb]
  rw [if_neg (show ¬ nI 1 = (-1 : Int32) from nI_ne_m1 (by omega)), if_pos (show nI d ≤ (40 : Int32) from nI_le (a := d) (b := 40) hd (by omega)), grd_i (vpb_n (by omega) (by omega)), grd_i (vpb_n (by omega) (by omega)), grd_i (fun _ => by rw [h6]; exact vpb_n ht (by omega))]
  rw [if_neg (show ¬ nI 20 = (10 : Int32) by decide), if_neg (show ¬ nI 20 = (11 : Int32) by decide), if_neg (show ¬ nI 20 = (12 : Int32) by decide), if_pos (show nI 20 = (20 : Int32) from rfl)]
  rw [nI_clamp (n := 1) (by omega), ea, nI_1]
  rfl
theorem rn_3_1 {w : MW} {n k a m t d : Nat} {x : Int32} (h : MV w k a m t) (ht : t < 20) (hd : d ≤ 40) : f_Mv_runN (n + 1) w (nI 3) (nI 1) x (nI d) = bI (f_Mv_runN n (u_Mv_note w (nI 40)) (nI 1) (nI 1) (x + nI 1) (nI (d + 1))) (fun v w' => some (some (.int v), w')) := by
  obtain ⟨h1, h2, h3, h4, h5, h6⟩ := h
  have eb : w.1 82 (3 * 3 + 1) = nI 40 := h2 10 (by omega)
  have ea : w.1 81 3 = nI 1 := h1 3 (by omega)
  have e2 : (u_Mv_note w (nI 40)).1 60 2 = nI m := by rw [nt_j (by omega)]; exact h3
  have e3 : (u_Mv_note w (nI 40)).1 60 3 = nI k := by rw [nt_j (by omega)]; exact h4
  have e4 : (u_Mv_note w (nI 40)).1 60 4 = nI a := by rw [nt_j (by omega)]; exact h5
  have ei : (3 : Int32) * nI 3 + nI 1 = nI 10 := by decide
  rw [f_Mv_runN, ow_3_1 h1 h2, bI_k, ei, nI_clamp (n := 10) (by omega), eb]
  rw [if_neg (show ¬ nI 3 = (-1 : Int32) from nI_ne_m1 (by omega)), if_pos (show nI d ≤ (40 : Int32) from nI_le (a := d) (b := 40) hd (by omega)), grd_i (vpb_n (by omega) (by omega)), grd_i (vpb_n (by omega) (by omega)), grd_i (fun _ => by rw [h6]; exact vpb_n ht (by omega))]
  rw [if_neg (show ¬ nI 40 = (10 : Int32) by decide), if_neg (show ¬ nI 40 = (11 : Int32) by decide), if_neg (show ¬ nI 40 = (12 : Int32) by decide), if_neg (show ¬ nI 40 = (20 : Int32) by decide), if_neg (show ¬ nI 40 = (30 : Int32) by decide), if_pos (show nI 40 = (40 : Int32) from rfl)]
  rw [nI_clamp (n := 3) (by omega), ea, nI_1]
  rfl
theorem rn_3_2 {w : MW} {n k a m t d : Nat} {x : Int32} (h : MV w k a m t) (ht : t < 20) (hd : d ≤ 40) : f_Mv_runN (n + 1) w (nI 3) (nI 2) x (nI d) = bI (f_Mv_runN n (u_Mv_note w (nI 12)) (nI k) (nI 1) x (nI (d + 1))) (fun v w' => bI (f_Mv_runN n w' (w'.1 60 3) (nI 0) (x - w'.1 60 4) (nI (d + 1))) (fun v' w'' => some (some (.int (v ^^^ v')), w''))) := by
  obtain ⟨h1, h2, h3, h4, h5, h6⟩ := h
  have eb : w.1 82 (3 * 0 + 2) = nI 12 := h2 2 (by omega)
  have ea : w.1 81 0 = -nI 1 := h1 0 (by omega)
  have e2 : (u_Mv_note w (nI 12)).1 60 2 = nI m := by rw [nt_j (by omega)]; exact h3
  have e3 : (u_Mv_note w (nI 12)).1 60 3 = nI k := by rw [nt_j (by omega)]; exact h4
  have e4 : (u_Mv_note w (nI 12)).1 60 4 = nI a := by rw [nt_j (by omega)]; exact h5
  have ei : (3 : Int32) * nI 0 + nI 2 = nI 2 := by decide
  rw [f_Mv_runN, ow_3_2 h1 h2, bI_k, ei, nI_clamp (n := 2) (by omega), eb]
  rw [if_neg (show ¬ nI 0 = (-1 : Int32) from nI_ne_m1 (by omega)), if_pos (show nI d ≤ (40 : Int32) from nI_le (a := d) (b := 40) hd (by omega)), grd_i (vpb_n (by omega) (by omega)), grd_i (vpb_n (by omega) (by omega)), grd_i (fun _ => by rw [h6]; exact vpb_n ht (by omega))]
  rw [if_neg (show ¬ nI 12 = (10 : Int32) by decide), if_neg (show ¬ nI 12 = (11 : Int32) by decide), if_pos (show nI 12 = (12 : Int32) from rfl)]
  rw [e3, nI_1]
  rfl
theorem rn_4_0 {w : MW} {n k a m t d : Nat} {x : Int32} (h : MV w k a m t) (ht : t < 20) (hd : d ≤ 40) : f_Mv_runN (n + 1) w (nI 4) (nI 0) x (nI d) = bI (f_Mv_runN n (u_Mv_note w (nI 51)) (nI 0) (nI 0) x (nI (d + 1))) (fun v w' => some (some (.int (v - w'.1 60 2)), w')) := by
  obtain ⟨h1, h2, h3, h4, h5, h6⟩ := h
  have eb : w.1 82 (3 * 4 + 0) = nI 51 := h2 12 (by omega)
  have ea : w.1 81 4 = nI 0 := h1 4 (by omega)
  have e2 : (u_Mv_note w (nI 51)).1 60 2 = nI m := by rw [nt_j (by omega)]; exact h3
  have e3 : (u_Mv_note w (nI 51)).1 60 3 = nI k := by rw [nt_j (by omega)]; exact h4
  have e4 : (u_Mv_note w (nI 51)).1 60 4 = nI a := by rw [nt_j (by omega)]; exact h5
  have ei : (3 : Int32) * nI 4 + nI 0 = nI 12 := by decide
  rw [f_Mv_runN, ow_4_0 h1 h2, bI_k, ei, nI_clamp (n := 12) (by omega), eb]
  rw [if_neg (show ¬ nI 4 = (-1 : Int32) from nI_ne_m1 (by omega)), if_pos (show nI d ≤ (40 : Int32) from nI_le (a := d) (b := 40) hd (by omega)), grd_i (vpb_n (by omega) (by omega)), grd_i (vpb_n (by omega) (by omega)), grd_i (fun _ => by rw [h6]; exact vpb_n ht (by omega))]
  rw [if_neg (show ¬ nI 51 = (10 : Int32) by decide), if_neg (show ¬ nI 51 = (11 : Int32) by decide), if_neg (show ¬ nI 51 = (12 : Int32) by decide), if_neg (show ¬ nI 51 = (20 : Int32) by decide), if_neg (show ¬ nI 51 = (30 : Int32) by decide), if_neg (show ¬ nI 51 = (40 : Int32) by decide), if_neg (show ¬ nI 51 = (50 : Int32) by decide), if_pos (show nI 51 = (51 : Int32) from rfl)]
  rw [nI_clamp (n := 4) (by omega), ea, nI_1]
  rfl
theorem rn_4_1 {w : MW} {n k a m t d : Nat} {x : Int32} (h : MV w k a m t) (ht : t < 20) (hd : d ≤ 40) : f_Mv_runN (n + 1) w (nI 4) (nI 1) x (nI d) = bI (f_Mv_runN n (u_Mv_note w (nI 11)) (nI k) (nI 0) x (nI (d + 1))) (fun v w' => some (some (.int (v * nI 2)), w')) := by
  obtain ⟨h1, h2, h3, h4, h5, h6⟩ := h
  have eb : w.1 82 (3 * 0 + 1) = nI 11 := h2 1 (by omega)
  have ea : w.1 81 0 = -nI 1 := h1 0 (by omega)
  have e2 : (u_Mv_note w (nI 11)).1 60 2 = nI m := by rw [nt_j (by omega)]; exact h3
  have e3 : (u_Mv_note w (nI 11)).1 60 3 = nI k := by rw [nt_j (by omega)]; exact h4
  have e4 : (u_Mv_note w (nI 11)).1 60 4 = nI a := by rw [nt_j (by omega)]; exact h5
  have ei : (3 : Int32) * nI 0 + nI 1 = nI 1 := by decide
  rw [f_Mv_runN, ow_4_1 h1 h2, bI_k, ei, nI_clamp (n := 1) (by omega), eb]
  rw [if_neg (show ¬ nI 0 = (-1 : Int32) from nI_ne_m1 (by omega)), if_pos (show nI d ≤ (40 : Int32) from nI_le (a := d) (b := 40) hd (by omega)), grd_i (vpb_n (by omega) (by omega)), grd_i (vpb_n (by omega) (by omega)), grd_i (fun _ => by rw [h6]; exact vpb_n ht (by omega))]
  rw [if_neg (show ¬ nI 11 = (10 : Int32) by decide), if_pos (show nI 11 = (11 : Int32) from rfl)]
  rw [e3, nI_1]
  rfl
theorem rn_4_2 {w : MW} {n k a m t d : Nat} {x : Int32} (h : MV w k a m t) (ht : t < 20) (hd : d ≤ 40) : f_Mv_runN (n + 1) w (nI 4) (nI 2) x (nI d) = bI (f_Mv_runN n (u_Mv_note w (nI 50)) (nI 0) (nI 2) x (nI (d + 1))) (fun v w' => some (some (.int (-v)), w')) := by
  obtain ⟨h1, h2, h3, h4, h5, h6⟩ := h
  have eb : w.1 82 (3 * 4 + 2) = nI 50 := h2 14 (by omega)
  have ea : w.1 81 4 = nI 0 := h1 4 (by omega)
  have e2 : (u_Mv_note w (nI 50)).1 60 2 = nI m := by rw [nt_j (by omega)]; exact h3
  have e3 : (u_Mv_note w (nI 50)).1 60 3 = nI k := by rw [nt_j (by omega)]; exact h4
  have e4 : (u_Mv_note w (nI 50)).1 60 4 = nI a := by rw [nt_j (by omega)]; exact h5
  have ei : (3 : Int32) * nI 4 + nI 2 = nI 14 := by decide
  rw [f_Mv_runN, ow_4_2 h1 h2, bI_k, ei, nI_clamp (n := 14) (by omega), eb]
  rw [if_neg (show ¬ nI 4 = (-1 : Int32) from nI_ne_m1 (by omega)), if_pos (show nI d ≤ (40 : Int32) from nI_le (a := d) (b := 40) hd (by omega)), grd_i (vpb_n (by omega) (by omega)), grd_i (vpb_n (by omega) (by omega)), grd_i (fun _ => by rw [h6]; exact vpb_n ht (by omega))]
  rw [if_neg (show ¬ nI 50 = (10 : Int32) by decide), if_neg (show ¬ nI 50 = (11 : Int32) by decide), if_neg (show ¬ nI 50 = (12 : Int32) by decide), if_neg (show ¬ nI 50 = (20 : Int32) by decide), if_neg (show ¬ nI 50 = (30 : Int32) by decide), if_neg (show ¬ nI 50 = (40 : Int32) by decide), if_pos (show nI 50 = (50 : Int32) from rfl)]
  rw [nI_clamp (n := 4) (by omega), ea, nI_1]
  rfl
theorem rn_5_0 {w : MW} {n k a m t d : Nat} {x : Int32} (h : MV w k a m t) (ht : t < 20) (hd : d ≤ 40) : f_Mv_runN (n + 1) w (nI 5) (nI 0) x (nI d) = some (some (.int (x + nI m)), (u_Mv_note w (nI 10))) := by
  obtain ⟨h1, h2, h3, h4, h5, h6⟩ := h
  have eb : w.1 82 (3 * 0 + 0) = nI 10 := h2 0 (by omega)
  have ea : w.1 81 0 = -nI 1 := h1 0 (by omega)
  have e2 : (u_Mv_note w (nI 10)).1 60 2 = nI m := by rw [nt_j (by omega)]; exact h3
  have e3 : (u_Mv_note w (nI 10)).1 60 3 = nI k := by rw [nt_j (by omega)]; exact h4
  have e4 : (u_Mv_note w (nI 10)).1 60 4 = nI a := by rw [nt_j (by omega)]; exact h5
  have ei : (3 : Int32) * nI 0 + nI 0 = nI 0 := by decide
  rw [f_Mv_runN, ow_5_0 h1 h2, bI_k, ei, nI_clamp (n := 0) (by omega), eb]
  rw [if_neg (show ¬ nI 0 = (-1 : Int32) from nI_ne_m1 (by omega)), if_pos (show nI d ≤ (40 : Int32) from nI_le (a := d) (b := 40) hd (by omega)), grd_i (vpb_n (by omega) (by omega)), grd_i (vpb_n (by omega) (by omega)), grd_i (fun _ => by rw [h6]; exact vpb_n ht (by omega))]
  rw [if_pos (show nI 10 = (10 : Int32) from rfl)]
  rw [e2]
theorem rn_5_1 {w : MW} {n k a m t d : Nat} {x : Int32} (h : MV w k a m t) (ht : t < 20) (hd : d ≤ 40) : f_Mv_runN (n + 1) w (nI 5) (nI 1) x (nI d) = bI (f_Mv_runN n (u_Mv_note w (nI 30)) (nI 0) (nI 1) x (nI (d + 1))) (fun v w' => some (some (.int (v * nI 3)), w')) := by
  obtain ⟨h1, h2, h3, h4, h5, h6⟩ := h
  have eb : w.1 82 (3 * 2 + 1) = nI 30 := h2 7 (by omega)
  have ea : w.1 81 2 = nI 0 := h1 2 (by omega)
  have e2 : (u_Mv_note w (nI 30)).1 60 2 = nI m := by rw [nt_j (by omega)]; exact h3
  have e3 : (u_Mv_note w (nI 30)).1 60 3 = nI k := by rw [nt_j (by omega)]; exact h4
  have e4 : (u_Mv_note w (nI 30)).1 60 4 = nI a := by rw [nt_j (by omega)]; exact h5
  have ei : (3 : Int32) * nI 2 + nI 1 = nI 7 := by decide
  rw [f_Mv_runN, ow_5_1 h1 h2, bI_k, ei, nI_clamp (n := 7) (by omega), eb]
  rw [if_neg (show ¬ nI 2 = (-1 : Int32) from nI_ne_m1 (by omega)), if_pos (show nI d ≤ (40 : Int32) from nI_le (a := d) (b := 40) hd (by omega)), grd_i (vpb_n (by omega) (by omega)), grd_i (vpb_n (by omega) (by omega)), grd_i (fun _ => by rw [h6]; exact vpb_n ht (by omega))]
  rw [if_neg (show ¬ nI 30 = (10 : Int32) by decide), if_neg (show ¬ nI 30 = (11 : Int32) by decide), if_neg (show ¬ nI 30 = (12 : Int32) by decide), if_neg (show ¬ nI 30 = (20 : Int32) by decide), if_pos (show nI 30 = (30 : Int32) from rfl)]
  rw [nI_clamp (n := 2) (by omega), ea, nI_1]
  rfl
theorem rn_5_2 {w : MW} {n k a m t d : Nat} {x : Int32} (h : MV w k a m t) (ht : t < 20) (hd : d ≤ 40) : f_Mv_runN (n + 1) w (nI 5) (nI 2) x (nI d) = bI (f_Mv_runN n (u_Mv_note w (nI 60)) (nI 2) (nI 2) x (nI (d + 1))) (fun v w' => some (some (.int (v ^^^ nI 5)), w')) := by
  obtain ⟨h1, h2, h3, h4, h5, h6⟩ := h
  have eb : w.1 82 (3 * 5 + 2) = nI 60 := h2 17 (by omega)
  have ea : w.1 81 5 = nI 2 := h1 5 (by omega)
  have e2 : (u_Mv_note w (nI 60)).1 60 2 = nI m := by rw [nt_j (by omega)]; exact h3
  have e3 : (u_Mv_note w (nI 60)).1 60 3 = nI k := by rw [nt_j (by omega)]; exact h4
  have e4 : (u_Mv_note w (nI 60)).1 60 4 = nI a := by rw [nt_j (by omega)]; exact h5
  have ei : (3 : Int32) * nI 5 + nI 2 = nI 17 := by decide
  rw [f_Mv_runN, ow_5_2 h1 h2, bI_k, ei, nI_clamp (n := 17) (by omega), eb]
  rw [if_neg (show ¬ nI 5 = (-1 : Int32) from nI_ne_m1 (by omega)), if_pos (show nI d ≤ (40 : Int32) from nI_le (a := d) (b := 40) hd (by omega)), grd_i (vpb_n (by omega) (by omega)), grd_i (vpb_n (by omega) (by omega)), grd_i (fun _ => by rw [h6]; exact vpb_n ht (by omega))]
  rw [if_neg (show ¬ nI 60 = (10 : Int32) by decide), if_neg (show ¬ nI 60 = (11 : Int32) by decide), if_neg (show ¬ nI 60 = (12 : Int32) by decide), if_neg (show ¬ nI 60 = (20 : Int32) by decide), if_neg (show ¬ nI 60 = (30 : Int32) by decide), if_neg (show ¬ nI 60 = (40 : Int32) by decide), if_neg (show ¬ nI 60 = (50 : Int32) by decide), if_neg (show ¬ nI 60 = (51 : Int32) by decide), if_pos (show nI 60 = (60 : Int32) from rfl)]
  rw [nI_clamp (n := 5) (by omega), ea, nI_1]
  rfl
theorem rn_6_0 {w : MW} {n k a m t d : Nat} {x : Int32} (h : MV w k a m t) (ht : t < 20) (hd : d ≤ 40) : f_Mv_runN (n + 1) w (nI 6) (nI 0) x (nI d) = bI (f_Mv_runN n (u_Mv_note w (nI 70)) (nI 4) (nI 0) x (nI (d + 1))) (fun v w' => some (some (.int (v * nI 2)), w')) := by
  obtain ⟨h1, h2, h3, h4, h5, h6⟩ := h
  have eb : w.1 82 (3 * 6 + 0) = nI 70 := h2 18 (by omega)
  have ea : w.1 81 6 = nI 4 := h1 6 (by omega)
  have e2 : (u_Mv_note w (nI 70)).1 60 2 = nI m := by rw [nt_j (by omega)]; exact h3
  have e3 : (u_Mv_note w (nI 70)).1 60 3 = nI k := by rw [nt_j (by omega)]; exact h4
  have e4 : (u_Mv_note w (nI 70)).1 60 4 = nI a := by rw [nt_j (by omega)]; exact h5
  have ei : (3 : Int32) * nI 6 + nI 0 = nI 18 := by decide
  rw [f_Mv_runN, ow_6_0 h1 h2, bI_k, ei, nI_clamp (n := 18) (by omega), eb]
  rw [if_neg (show ¬ nI 6 = (-1 : Int32) from nI_ne_m1 (by omega)), if_pos (show nI d ≤ (40 : Int32) from nI_le (a := d) (b := 40) hd (by omega)), grd_i (vpb_n (by omega) (by omega)), grd_i (vpb_n (by omega) (by omega)), grd_i (fun _ => by rw [h6]; exact vpb_n ht (by omega))]
  rw [if_neg (show ¬ nI 70 = (10 : Int32) by decide), if_neg (show ¬ nI 70 = (11 : Int32) by decide), if_neg (show ¬ nI 70 = (12 : Int32) by decide), if_neg (show ¬ nI 70 = (20 : Int32) by decide), if_neg (show ¬ nI 70 = (30 : Int32) by decide), if_neg (show ¬ nI 70 = (40 : Int32) by decide), if_neg (show ¬ nI 70 = (50 : Int32) by decide), if_neg (show ¬ nI 70 = (51 : Int32) by decide), if_neg (show ¬ nI 70 = (60 : Int32) by decide), if_pos (show nI 70 = (70 : Int32) from rfl)]
  rw [nI_clamp (n := 6) (by omega), ea, nI_1]
  rfl
theorem rn_6_1 {w : MW} {n k a m t d : Nat} {x : Int32} (h : MV w k a m t) (ht : t < 20) (hd : d ≤ 40) : f_Mv_runN (n + 1) w (nI 6) (nI 1) x (nI d) = bI (f_Mv_runN n (u_Mv_note w (nI 71)) (nI 4) (nI 1) (x - nI a) (nI (d + 1))) (fun v w' => some (some (.int v), w')) := by
  obtain ⟨h1, h2, h3, h4, h5, h6⟩ := h
  have eb : w.1 82 (3 * 6 + 1) = nI 71 := h2 19 (by omega)
  have ea : w.1 81 6 = nI 4 := h1 6 (by omega)
  have e2 : (u_Mv_note w (nI 71)).1 60 2 = nI m := by rw [nt_j (by omega)]; exact h3
  have e3 : (u_Mv_note w (nI 71)).1 60 3 = nI k := by rw [nt_j (by omega)]; exact h4
  have e4 : (u_Mv_note w (nI 71)).1 60 4 = nI a := by rw [nt_j (by omega)]; exact h5
  have ei : (3 : Int32) * nI 6 + nI 1 = nI 19 := by decide
  rw [f_Mv_runN, ow_6_1 h1 h2, bI_k, ei, nI_clamp (n := 19) (by omega), eb]
  rw [if_neg (show ¬ nI 6 = (-1 : Int32) from nI_ne_m1 (by omega)), if_pos (show nI d ≤ (40 : Int32) from nI_le (a := d) (b := 40) hd (by omega)), grd_i (vpb_n (by omega) (by omega)), grd_i (vpb_n (by omega) (by omega)), grd_i (fun _ => by rw [h6]; exact vpb_n ht (by omega))]
  rw [if_neg (show ¬ nI 71 = (10 : Int32) by decide), if_neg (show ¬ nI 71 = (11 : Int32) by decide), if_neg (show ¬ nI 71 = (12 : Int32) by decide), if_neg (show ¬ nI 71 = (20 : Int32) by decide), if_neg (show ¬ nI 71 = (30 : Int32) by decide), if_neg (show ¬ nI 71 = (40 : Int32) by decide), if_neg (show ¬ nI 71 = (50 : Int32) by decide), if_neg (show ¬ nI 71 = (51 : Int32) by decide), if_neg (show ¬ nI 71 = (60 : Int32) by decide), if_neg (show ¬ nI 71 = (70 : Int32) by decide), if_pos (show nI 71 = (71 : Int32) from rfl)]
  rw [nI_clamp (n := 6) (by omega), ea, e4, nI_1]
  rfl
theorem rn_6_2 {w : MW} {n k a m t d : Nat} {x : Int32} (h : MV w k a m t) (ht : t < 20) (hd : d ≤ 40) : f_Mv_runN (n + 1) w (nI 6) (nI 2) x (nI d) = bI (f_Mv_runN n (u_Mv_note w (nI 50)) (nI 0) (nI 2) x (nI (d + 1))) (fun v w' => some (some (.int (-v)), w')) := by
  obtain ⟨h1, h2, h3, h4, h5, h6⟩ := h
  have eb : w.1 82 (3 * 4 + 2) = nI 50 := h2 14 (by omega)
  have ea : w.1 81 4 = nI 0 := h1 4 (by omega)
  have e2 : (u_Mv_note w (nI 50)).1 60 2 = nI m := by rw [nt_j (by omega)]; exact h3
  have e3 : (u_Mv_note w (nI 50)).1 60 3 = nI k := by rw [nt_j (by omega)]; exact h4
  have e4 : (u_Mv_note w (nI 50)).1 60 4 = nI a := by rw [nt_j (by omega)]; exact h5
  have ei : (3 : Int32) * nI 4 + nI 2 = nI 14 := by decide
  rw [f_Mv_runN, ow_6_2 h1 h2, bI_k, ei, nI_clamp (n := 14) (by omega), eb]
  rw [if_neg (show ¬ nI 4 = (-1 : Int32) from nI_ne_m1 (by omega)), if_pos (show nI d ≤ (40 : Int32) from nI_le (a := d) (b := 40) hd (by omega)), grd_i (vpb_n (by omega) (by omega)), grd_i (vpb_n (by omega) (by omega)), grd_i (fun _ => by rw [h6]; exact vpb_n ht (by omega))]
  rw [if_neg (show ¬ nI 50 = (10 : Int32) by decide), if_neg (show ¬ nI 50 = (11 : Int32) by decide), if_neg (show ¬ nI 50 = (12 : Int32) by decide), if_neg (show ¬ nI 50 = (20 : Int32) by decide), if_neg (show ¬ nI 50 = (30 : Int32) by decide), if_neg (show ¬ nI 50 = (40 : Int32) by decide), if_pos (show nI 50 = (50 : Int32) from rfl)]
  rw [nI_clamp (n := 4) (by omega), ea, nI_1]
  rfl
theorem hx_0 {w : MW} {n k a m t d : Nat} {x : Int32} (h : MV w k a m t) (ht : t < 15) (hd : d ≤ 30) : f_Mv_runN (n + 4) w (nI 0) (nI 0) x (nI d) = some (some (.int (x + nI m)), nts w [10]) := by
  have q := h.nt (b := 10)
  obtain ⟨_, _, q3, _, q5, _⟩ := q
  rw [rn_0_0 h (by omega) (by omega)]
  simp only [bI_k, nts, q3, q5]
theorem hx_1 {w : MW} {n k a m t d : Nat} {x : Int32} (h : MV w k a m t) (ht : t < 15) (hd : d ≤ 30) : f_Mv_runN (n + 4) w (nI 1) (nI 0) x (nI d) = some (some (.int (x + nI m + nI a)), nts w [20, 10]) := by
  have q := h.nt (b := 20).nt (b := 10)
  obtain ⟨_, _, q3, _, q5, _⟩ := q
  rw [rn_1_0 h (by omega) (by omega), rn_0_0 (MV.nt h) (by omega) (by omega)]
  simp only [bI_k, nts, q3, q5]
theorem hx_2 {w : MW} {n k a m t d : Nat} {x : Int32} (h : MV w k a m t) (ht : t < 15) (hd : d ≤ 30) : f_Mv_runN (n + 4) w (nI 2) (nI 0) x (nI d) = some (some (.int (x + nI m)), nts w [10]) := by
  have q := h.nt (b := 10)
  obtain ⟨_, _, q3, _, q5, _⟩ := q
  rw [rn_2_0 h (by omega) (by omega)]
  simp only [bI_k, nts, q3, q5]
theorem hx_3 {w : MW} {n k a m t d : Nat} {x : Int32} (h : MV w k a m t) (ht : t < 15) (hd : d ≤ 30) : f_Mv_runN (n + 4) w (nI 3) (nI 0) x (nI d) = some (some (.int (x + nI m + nI a)), nts w [20, 10]) := by
  have q := h.nt (b := 20).nt (b := 10)
  obtain ⟨_, _, q3, _, q5, _⟩ := q
  rw [rn_3_0 h (by omega) (by omega), rn_0_0 (MV.nt h) (by omega) (by omega)]
  simp only [bI_k, nts, q3, q5]
theorem hx_4 {w : MW} {n k a m t d : Nat} {x : Int32} (h : MV w k a m t) (ht : t < 15) (hd : d ≤ 30) : f_Mv_runN (n + 4) w (nI 4) (nI 0) x (nI d) = some (some (.int (x + nI m - nI m)), nts w [51, 10]) := by
  have q := h.nt (b := 51).nt (b := 10)
  obtain ⟨_, _, q3, _, q5, _⟩ := q
  rw [rn_4_0 h (by omega) (by omega), rn_0_0 (MV.nt h) (by omega) (by omega)]
  simp only [bI_k, nts, q3, q5]
theorem hx_5 {w : MW} {n k a m t d : Nat} {x : Int32} (h : MV w k a m t) (ht : t < 15) (hd : d ≤ 30) : f_Mv_runN (n + 4) w (nI 5) (nI 0) x (nI d) = some (some (.int (x + nI m)), nts w [10]) := by
  have q := h.nt (b := 10)
  obtain ⟨_, _, q3, _, q5, _⟩ := q
  rw [rn_5_0 h (by omega) (by omega)]
  simp only [bI_k, nts, q3, q5]
theorem hx_6 {w : MW} {n k a m t d : Nat} {x : Int32} (h : MV w k a m t) (ht : t < 15) (hd : d ≤ 30) : f_Mv_runN (n + 4) w (nI 6) (nI 0) x (nI d) = some (some (.int (((x + nI m) - nI m) * nI 2)), nts w [70, 51, 10]) := by
  have q := h.nt (b := 70).nt (b := 51).nt (b := 10)
  obtain ⟨_, _, q3, _, q5, _⟩ := q
  rw [rn_6_0 h (by omega) (by omega), rn_4_0 (MV.nt h) (by omega) (by omega), rn_0_0 (MV.nt (MV.nt h)) (by omega) (by omega)]
  simp only [bI_k, nts, q3, q5]
theorem mk_0 {w : MW} {n a m t d : Nat} {x : Int32} (h : MV w 0 a m t) (ht : t < 10) (hd : d ≤ 20) : f_Mv_runN (n + 8) w (nI 0) (nI 1) x (nI d) = some (some (.int ((x + nI m) * nI 2)), nts w [11, 10]) := by
  rw [rn_0_1 h (by omega) (by omega), hx_0 (MV.nt h) (by omega) (by omega)]
  simp only [bI_k, nts]
theorem mk_1 {w : MW} {n a m t d : Nat} {x : Int32} (h : MV w 1 a m t) (ht : t < 10) (hd : d ≤ 20) : f_Mv_runN (n + 8) w (nI 1) (nI 1) x (nI d) = some (some (.int ((x + nI m + nI a) * nI 2)), nts w [11, 20, 10]) := by
  rw [rn_1_1 h (by omega) (by omega), hx_1 (MV.nt h) (by omega) (by omega)]
  simp only [bI_k, nts]
theorem mk_2 {w : MW} {n a m t d : Nat} {x : Int32} (h : MV w 2 a m t) (ht : t < 10) (hd : d ≤ 20) : f_Mv_runN (n + 8) w (nI 2) (nI 1) x (nI d) = some (some (.int (((x + nI m) * nI 2) * nI 3)), nts w [30, 11, 10]) := by
  rw [rn_2_1 h (by omega) (by omega), rn_0_1 (MV.nt h) (by omega) (by omega), hx_2 (MV.nt (MV.nt h)) (by omega) (by omega)]
  simp only [bI_k, nts]
theorem mk_3 {w : MW} {n a m t d : Nat} {x : Int32} (h : MV w 3 a m t) (ht : t < 10) (hd : d ≤ 20) : f_Mv_runN (n + 8) w (nI 3) (nI 1) x (nI d) = some (some (.int (((x + nI 1) + nI m + nI a) * nI 2)), nts w [40, 11, 20, 10]) := by
  rw [rn_3_1 h (by omega) (by omega), rn_1_1 (MV.nt h) (by omega) (by omega), hx_3 (MV.nt (MV.nt h)) (by omega) (by omega)]
  simp only [bI_k, nts]
theorem mk_4 {w : MW} {n a m t d : Nat} {x : Int32} (h : MV w 4 a m t) (ht : t < 10) (hd : d ≤ 20) : f_Mv_runN (n + 8) w (nI 4) (nI 1) x (nI d) = some (some (.int ((x + nI m - nI m) * nI 2)), nts w [11, 51, 10]) := by
  rw [rn_4_1 h (by omega) (by omega), hx_4 (MV.nt h) (by omega) (by omega)]
  simp only [bI_k, nts]
theorem mk_5 {w : MW} {n a m t d : Nat} {x : Int32} (h : MV w 5 a m t) (ht : t < 10) (hd : d ≤ 20) : f_Mv_runN (n + 8) w (nI 5) (nI 1) x (nI d) = some (some (.int (((x + nI m) * nI 2) * nI 3)), nts w [30, 11, 10]) := by
  rw [rn_5_1 h (by omega) (by omega), rn_0_1 (MV.nt h) (by omega) (by omega), hx_5 (MV.nt (MV.nt h)) (by omega) (by omega)]
  simp only [bI_k, nts]
theorem mk_6 {w : MW} {n a m t d : Nat} {x : Int32} (h : MV w 6 a m t) (ht : t < 10) (hd : d ≤ 20) : f_Mv_runN (n + 8) w (nI 6) (nI 1) x (nI d) = some (some (.int (((((x - nI a) + nI m) - nI m) * nI 2) * nI 2)), nts w [71, 11, 70, 51, 10]) := by
  rw [rn_6_1 h (by omega) (by omega), rn_4_1 (MV.nt h) (by omega) (by omega), hx_6 (MV.nt (MV.nt h)) (by omega) (by omega)]
  simp only [bI_k, nts]
theorem tl_0 {w : MW} {n a m t d : Nat} {x : Int32} (h : MV w 0 a m t) (ht : t < 2) (hd : d ≤ 10) : f_Mv_runN (n + 12) w (nI 0) (nI 2) x (nI d) = some (some (.int (((x + nI m) * nI 2) ^^^ ((x - nI a) + nI m))), nts w [12, 11, 10, 10]) := by
  have q := h.nt (b := 12).nt (b := 11).nt (b := 10)
  have q4 := q.2.2.2.1
  have q5 := q.2.2.2.2.1
  rw [rn_0_2 h (by omega) (by omega), mk_0 (MV.nt h) (by omega) (by omega)]
  simp only [bI_k, nts]
  rw [q4, q5, hx_0 q (by omega) (by omega)]
  simp only [bI_k, nts]
theorem tl_1 {w : MW} {n a m t d : Nat} {x : Int32} (h : MV w 1 a m t) (ht : t < 2) (hd : d ≤ 10) : f_Mv_runN (n + 12) w (nI 1) (nI 2) x (nI d) = some (some (.int (((x + nI m + nI a) * nI 2) ^^^ ((x - nI a) + nI m + nI a))), nts w [12, 11, 20, 10, 20, 10]) := by
  have q := h.nt (b := 12).nt (b := 11).nt (b := 20).nt (b := 10)
  have q4 := q.2.2.2.1
  have q5 := q.2.2.2.2.1
  rw [rn_1_2 h (by omega) (by omega), mk_1 (MV.nt h) (by omega) (by omega)]
  simp only [bI_k, nts]
  rw [q4, q5, hx_1 q (by omega) (by omega)]
  simp only [bI_k, nts]
theorem tl_2 {w : MW} {n a m t d : Nat} {x : Int32} (h : MV w 2 a m t) (ht : t < 2) (hd : d ≤ 10) : f_Mv_runN (n + 12) w (nI 2) (nI 2) x (nI d) = some (some (.int ((((x + nI m) * nI 2) * nI 3) ^^^ ((x - nI a) + nI m))), nts w [12, 30, 11, 10, 10]) := by
  have q := h.nt (b := 12).nt (b := 30).nt (b := 11).nt (b := 10)
  have q4 := q.2.2.2.1
  have q5 := q.2.2.2.2.1
  rw [rn_2_2 h (by omega) (by omega), mk_2 (MV.nt h) (by omega) (by omega)]
  simp only [bI_k, nts]
  rw [q4, q5, hx_2 q (by omega) (by omega)]
  simp only [bI_k, nts]
theorem tl_3 {w : MW} {n a m t d : Nat} {x : Int32} (h : MV w 3 a m t) (ht : t < 2) (hd : d ≤ 10) : f_Mv_runN (n + 12) w (nI 3) (nI 2) x (nI d) = some (some (.int ((((x + nI 1) + nI m + nI a) * nI 2) ^^^ ((x - nI a) + nI m + nI a))), nts w [12, 40, 11, 20, 10, 20, 10]) := by
  have q := h.nt (b := 12).nt (b := 40).nt (b := 11).nt (b := 20).nt (b := 10)
  have q4 := q.2.2.2.1
  have q5 := q.2.2.2.2.1
  rw [rn_3_2 h (by omega) (by omega), mk_3 (MV.nt h) (by omega) (by omega)]
  simp only [bI_k, nts]
  rw [q4, q5, hx_3 q (by omega) (by omega)]
  simp only [bI_k, nts]
theorem tl_4 {w : MW} {n a m t d : Nat} {x : Int32} (h : MV w 4 a m t) (ht : t < 2) (hd : d ≤ 10) : f_Mv_runN (n + 12) w (nI 4) (nI 2) x (nI d) = some (some (.int (-(((x + nI m - nI m) * nI 2) ^^^ ((x - nI a) + nI m - nI m)))), nts w [50, 12, 11, 51, 10, 51, 10]) := by
  have q := h.nt (b := 50).nt (b := 12).nt (b := 11).nt (b := 51).nt (b := 10)
  have q4 := q.2.2.2.1
  have q5 := q.2.2.2.2.1
  rw [rn_4_2 h (by omega) (by omega), rn_0_2 (MV.nt h) (by omega) (by omega), mk_4 (MV.nt (MV.nt h)) (by omega) (by omega)]
  simp only [bI_k, nts]
  rw [q4, q5, hx_4 q (by omega) (by omega)]
  simp only [bI_k, nts]
theorem tl_5 {w : MW} {n a m t d : Nat} {x : Int32} (h : MV w 5 a m t) (ht : t < 2) (hd : d ≤ 10) : f_Mv_runN (n + 12) w (nI 5) (nI 2) x (nI d) = some (some (.int (((((x + nI m) * nI 2) * nI 3) ^^^ ((x - nI a) + nI m)) ^^^ nI 5)), nts w [60, 12, 30, 11, 10, 10]) := by
  have q := h.nt (b := 60).nt (b := 12).nt (b := 30).nt (b := 11).nt (b := 10)
  have q4 := q.2.2.2.1
  have q5 := q.2.2.2.2.1
  rw [rn_5_2 h (by omega) (by omega), rn_2_2 (MV.nt h) (by omega) (by omega), mk_5 (MV.nt (MV.nt h)) (by omega) (by omega)]
  simp only [bI_k, nts]
  rw [q4, q5, hx_5 q (by omega) (by omega)]
  simp only [bI_k, nts]
theorem tl_6 {w : MW} {n a m t d : Nat} {x : Int32} (h : MV w 6 a m t) (ht : t < 2) (hd : d ≤ 10) : f_Mv_runN (n + 12) w (nI 6) (nI 2) x (nI d) = some (some (.int (-((((((x - nI a) + nI m) - nI m) * nI 2) * nI 2) ^^^ ((((x - nI a) + nI m) - nI m) * nI 2)))), nts w [50, 12, 71, 11, 70, 51, 10, 70, 51, 10]) := by
  have q := h.nt (b := 50).nt (b := 12).nt (b := 71).nt (b := 11).nt (b := 70).nt (b := 51).nt (b := 10)
  have q4 := q.2.2.2.1
  have q5 := q.2.2.2.2.1
  rw [rn_6_2 h (by omega) (by omega), rn_0_2 (MV.nt h) (by omega) (by omega), mk_6 (MV.nt (MV.nt h)) (by omega) (by omega)]
  simp only [bI_k, nts]
  rw [q4, q5, hx_6 q (by omega) (by omega)]
  simp only [bI_k, nts]
theorem mh_0 {w : MW} {a m t : Nat} {x : Int32} (hm : m < 8) (ek : w.1 66 m = nI 0) (ea : w.1 67 m = nI a) (e15 : w.1 62 15 = nI t) (ht : t < 15) : f_M_hearsBy w (nI m) x = some (some (.int (x + nI m)), rns w [10]) := by
  unfold f_M_hearsBy
  simp (disch := omega) only [k0, k1, k2, k3, k4, k5, k6, k7, k8, k9, k10, k12, k20, k30, k31, k40, k99, k160, ite_self, nI_add, nI_leI, nI_ltI, nI_eq, nI_clamp, nI_sub', nI_mul, vpb_n, eq_self, implies_true, grd_t, grd_i, if_pos, if_neg, bI_k, bV_k, bx0, bx1, mh0, mh1, rd_s, rd_o, rd_j, rd_2k, rdL_1k, ↓reduceIte, Bool.false_eq_true, Bool.true_eq_false, Nat.add_eq, Nat.zero_add, Nat.add_zero, not_true_eq_false, not_false_eq_true, nIm1, ek, ea, e15, mr_o', mr_j, mr_15, k11', k50, k51, k60', k70, k71, bI_k, rns]
theorem mh_1 {w : MW} {a m t : Nat} {x : Int32} (hm : m < 8) (ek : w.1 66 m = nI 1) (ea : w.1 67 m = nI a) (e15 : w.1 62 15 = nI t) (ht : t < 15) : f_M_hearsBy w (nI m) x = some (some (.int (x + nI m + nI a)), rns w [20, 10]) := by
  unfold f_M_hearsBy
  simp (disch := omega) only [k0, k1, k2, k3, k4, k5, k6, k7, k8, k9, k10, k12, k20, k30, k31, k40, k99, k160, ite_self, nI_add, nI_leI, nI_ltI, nI_eq, nI_clamp, nI_sub', nI_mul, vpb_n, eq_self, implies_true, grd_t, grd_i, if_pos, if_neg, bI_k, bV_k, bx0, bx1, mh0, mh1, rd_s, rd_o, rd_j, rd_2k, rdL_1k, ↓reduceIte, Bool.false_eq_true, Bool.true_eq_false, Nat.add_eq, Nat.zero_add, Nat.add_zero, not_true_eq_false, not_false_eq_true, nIm1, ek, ea, e15, mr_o', mr_j, mr_15, k11', k50, k51, k60', k70, k71, bI_k, rns]
theorem mh_2 {w : MW} {a m t : Nat} {x : Int32} (hm : m < 8) (ek : w.1 66 m = nI 2) (ea : w.1 67 m = nI a) (e15 : w.1 62 15 = nI t) (ht : t < 15) : f_M_hearsBy w (nI m) x = some (some (.int (x + nI m)), rns w [10]) := by
  unfold f_M_hearsBy
  simp (disch := omega) only [k0, k1, k2, k3, k4, k5, k6, k7, k8, k9, k10, k12, k20, k30, k31, k40, k99, k160, ite_self, nI_add, nI_leI, nI_ltI, nI_eq, nI_clamp, nI_sub', nI_mul, vpb_n, eq_self, implies_true, grd_t, grd_i, if_pos, if_neg, bI_k, bV_k, bx0, bx1, mh0, mh1, rd_s, rd_o, rd_j, rd_2k, rdL_1k, ↓reduceIte, Bool.false_eq_true, Bool.true_eq_false, Nat.add_eq, Nat.zero_add, Nat.add_zero, not_true_eq_false, not_false_eq_true, nIm1, ek, ea, e15, mr_o', mr_j, mr_15, k11', k50, k51, k60', k70, k71, bI_k, rns]
theorem mh_3 {w : MW} {a m t : Nat} {x : Int32} (hm : m < 8) (ek : w.1 66 m = nI 3) (ea : w.1 67 m = nI a) (e15 : w.1 62 15 = nI t) (ht : t < 15) : f_M_hearsBy w (nI m) x = some (some (.int (x + nI m + nI a)), rns w [20, 10]) := by
  unfold f_M_hearsBy
  simp (disch := omega) only [k0, k1, k2, k3, k4, k5, k6, k7, k8, k9, k10, k12, k20, k30, k31, k40, k99, k160, ite_self, nI_add, nI_leI, nI_ltI, nI_eq, nI_clamp, nI_sub', nI_mul, vpb_n, eq_self, implies_true, grd_t, grd_i, if_pos, if_neg, bI_k, bV_k, bx0, bx1, mh0, mh1, rd_s, rd_o, rd_j, rd_2k, rdL_1k, ↓reduceIte, Bool.false_eq_true, Bool.true_eq_false, Nat.add_eq, Nat.zero_add, Nat.add_zero, not_true_eq_false, not_false_eq_true, nIm1, ek, ea, e15, mr_o', mr_j, mr_15, k11', k50, k51, k60', k70, k71, bI_k, rns]
theorem mh_4 {w : MW} {a m t : Nat} {x : Int32} (hm : m < 8) (ek : w.1 66 m = nI 4) (ea : w.1 67 m = nI a) (e15 : w.1 62 15 = nI t) (ht : t < 15) : f_M_hearsBy w (nI m) x = some (some (.int (x + nI m - nI m)), rns w [51, 10]) := by
  unfold f_M_hearsBy
  simp (disch := omega) only [k0, k1, k2, k3, k4, k5, k6, k7, k8, k9, k10, k12, k20, k30, k31, k40, k99, k160, ite_self, nI_add, nI_leI, nI_ltI, nI_eq, nI_clamp, nI_sub', nI_mul, vpb_n, eq_self, implies_true, grd_t, grd_i, if_pos, if_neg, bI_k, bV_k, bx0, bx1, mh0, mh1, rd_s, rd_o, rd_j, rd_2k, rdL_1k, ↓reduceIte, Bool.false_eq_true, Bool.true_eq_false, Nat.add_eq, Nat.zero_add, Nat.add_zero, not_true_eq_false, not_false_eq_true, nIm1, ek, ea, e15, mr_o', mr_j, mr_15, k11', k50, k51, k60', k70, k71, bI_k, rns]
theorem mh_5 {w : MW} {a m t : Nat} {x : Int32} (hm : m < 8) (ek : w.1 66 m = nI 5) (ea : w.1 67 m = nI a) (e15 : w.1 62 15 = nI t) (ht : t < 15) : f_M_hearsBy w (nI m) x = some (some (.int (x + nI m)), rns w [10]) := by
  unfold f_M_hearsBy
  simp (disch := omega) only [k0, k1, k2, k3, k4, k5, k6, k7, k8, k9, k10, k12, k20, k30, k31, k40, k99, k160, ite_self, nI_add, nI_leI, nI_ltI, nI_eq, nI_clamp, nI_sub', nI_mul, vpb_n, eq_self, implies_true, grd_t, grd_i, if_pos, if_neg, bI_k, bV_k, bx0, bx1, mh0, mh1, rd_s, rd_o, rd_j, rd_2k, rdL_1k, ↓reduceIte, Bool.false_eq_true, Bool.true_eq_false, Nat.add_eq, Nat.zero_add, Nat.add_zero, not_true_eq_false, not_false_eq_true, nIm1, ek, ea, e15, mr_o', mr_j, mr_15, k11', k50, k51, k60', k70, k71, bI_k, rns]
theorem mh_6 {w : MW} {a m t : Nat} {x : Int32} (hm : m < 8) (ek : w.1 66 m = nI 6) (ea : w.1 67 m = nI a) (e15 : w.1 62 15 = nI t) (ht : t < 15) : f_M_hearsBy w (nI m) x = some (some (.int (((x + nI m) - nI m) * nI 2)), rns w [70, 51, 10]) := by
  unfold f_M_hearsBy
  simp (disch := omega) only [k0, k1, k2, k3, k4, k5, k6, k7, k8, k9, k10, k12, k20, k30, k31, k40, k99, k160, ite_self, nI_add, nI_leI, nI_ltI, nI_eq, nI_clamp, nI_sub', nI_mul, vpb_n, eq_self, implies_true, grd_t, grd_i, if_pos, if_neg, bI_k, bV_k, bx0, bx1, mh0, mh1, rd_s, rd_o, rd_j, rd_2k, rdL_1k, ↓reduceIte, Bool.false_eq_true, Bool.true_eq_false, Nat.add_eq, Nat.zero_add, Nat.add_zero, not_true_eq_false, not_false_eq_true, nIm1, ek, ea, e15, mr_o', mr_j, mr_15, k11', k50, k51, k60', k70, k71, bI_k, rns]
theorem mm_0 {w : MW} {a m t : Nat} {x : Int32} (hm : m < 8) (ek : w.1 66 m = nI 0) (ea : w.1 67 m = nI a) (e15 : w.1 62 15 = nI t) (ht : t < 10) : f_M_makesBy w (nI m) x = some (some (.int ((x + nI m) * nI 2)), rns w [11, 10]) := by
  have hh := fun x => mh_0 (w := (u_M_ran w (nI 11))) (a := a) (m := m) (t := t + 1) (x := x) hm (by rw [mr_o' (by omega) (by omega)];  exact ek) (by rw [mr_o' (by omega) (by omega)]; exact ea) (by rw [mr_15, e15, nI_add]) (by omega)
  unfold f_M_makesBy
  simp (disch := omega) only [k0, k1, k2, k3, k4, k5, k6, k7, k8, k9, k10, k12, k20, k30, k31, k40, k99, k160, ite_self, nI_add, nI_leI, nI_ltI, nI_eq, nI_clamp, nI_sub', nI_mul, vpb_n, eq_self, implies_true, grd_t, grd_i, if_pos, if_neg, bI_k, bV_k, bx0, bx1, mh0, mh1, rd_s, rd_o, rd_j, rd_2k, rdL_1k, ↓reduceIte, Bool.false_eq_true, Bool.true_eq_false, Nat.add_eq, Nat.zero_add, Nat.add_zero, not_true_eq_false, not_false_eq_true, nIm1, ek, ea, e15, mr_o', mr_j, mr_15, k11', k50, k51, k60', k70, k71, bI_k, rns, hh]
theorem mm_1 {w : MW} {a m t : Nat} {x : Int32} (hm : m < 8) (ek : w.1 66 m = nI 1) (ea : w.1 67 m = nI a) (e15 : w.1 62 15 = nI t) (ht : t < 10) : f_M_makesBy w (nI m) x = some (some (.int ((x + nI m + nI a) * nI 2)), rns w [11, 20, 10]) := by
  have hh := fun x => mh_1 (w := (u_M_ran w (nI 11))) (a := a) (m := m) (t := t + 1) (x := x) hm (by rw [mr_o' (by omega) (by omega)];  exact ek) (by rw [mr_o' (by omega) (by omega)]; exact ea) (by rw [mr_15, e15, nI_add]) (by omega)
  unfold f_M_makesBy
  simp (disch := omega) only [k0, k1, k2, k3, k4, k5, k6, k7, k8, k9, k10, k12, k20, k30, k31, k40, k99, k160, ite_self, nI_add, nI_leI, nI_ltI, nI_eq, nI_clamp, nI_sub', nI_mul, vpb_n, eq_self, implies_true, grd_t, grd_i, if_pos, if_neg, bI_k, bV_k, bx0, bx1, mh0, mh1, rd_s, rd_o, rd_j, rd_2k, rdL_1k, ↓reduceIte, Bool.false_eq_true, Bool.true_eq_false, Nat.add_eq, Nat.zero_add, Nat.add_zero, not_true_eq_false, not_false_eq_true, nIm1, ek, ea, e15, mr_o', mr_j, mr_15, k11', k50, k51, k60', k70, k71, bI_k, rns, hh]
theorem mm_2 {w : MW} {a m t : Nat} {x : Int32} (hm : m < 8) (ek : w.1 66 m = nI 2) (ea : w.1 67 m = nI a) (e15 : w.1 62 15 = nI t) (ht : t < 10) : f_M_makesBy w (nI m) x = some (some (.int (((x + nI m) * nI 2) * nI 3)), rns w [30, 11, 10]) := by
  have hh := fun x => mh_2 (w := (u_M_ran (u_M_ran w (nI 30)) (nI 11))) (a := a) (m := m) (t := t + 2) (x := x) hm (by rw [mr_o' (by omega) (by omega), mr_o' (by omega) (by omega)];  exact ek) (by rw [mr_o' (by omega) (by omega), mr_o' (by omega) (by omega)]; exact ea) (by rw [mr_15, mr_15, e15, nI_add, nI_add]) (by omega)
  unfold f_M_makesBy
  simp (disch := omega) only [k0, k1, k2, k3, k4, k5, k6, k7, k8, k9, k10, k12, k20, k30, k31, k40, k99, k160, ite_self, nI_add, nI_leI, nI_ltI, nI_eq, nI_clamp, nI_sub', nI_mul, vpb_n, eq_self, implies_true, grd_t, grd_i, if_pos, if_neg, bI_k, bV_k, bx0, bx1, mh0, mh1, rd_s, rd_o, rd_j, rd_2k, rdL_1k, ↓reduceIte, Bool.false_eq_true, Bool.true_eq_false, Nat.add_eq, Nat.zero_add, Nat.add_zero, not_true_eq_false, not_false_eq_true, nIm1, ek, ea, e15, mr_o', mr_j, mr_15, k11', k50, k51, k60', k70, k71, bI_k, rns, hh]
theorem mm_3 {w : MW} {a m t : Nat} {x : Int32} (hm : m < 8) (ek : w.1 66 m = nI 3) (ea : w.1 67 m = nI a) (e15 : w.1 62 15 = nI t) (ht : t < 10) : f_M_makesBy w (nI m) x = some (some (.int (((x + nI 1) + nI m + nI a) * nI 2)), rns w [40, 11, 20, 10]) := by
  have hh := fun x => mh_3 (w := (u_M_ran (u_M_ran w (nI 40)) (nI 11))) (a := a) (m := m) (t := t + 2) (x := x) hm (by rw [mr_o' (by omega) (by omega), mr_o' (by omega) (by omega)];  exact ek) (by rw [mr_o' (by omega) (by omega), mr_o' (by omega) (by omega)]; exact ea) (by rw [mr_15, mr_15, e15, nI_add, nI_add]) (by omega)
  unfold f_M_makesBy
  simp (disch := omega) only [k0, k1, k2, k3, k4, k5, k6, k7, k8, k9, k10, k12, k20, k30, k31, k40, k99, k160, ite_self, nI_add, nI_leI, nI_ltI, nI_eq, nI_clamp, nI_sub', nI_mul, vpb_n, eq_self, implies_true, grd_t, grd_i, if_pos, if_neg, bI_k, bV_k, bx0, bx1, mh0, mh1, rd_s, rd_o, rd_j, rd_2k, rdL_1k, ↓reduceIte, Bool.false_eq_true, Bool.true_eq_false, Nat.add_eq, Nat.zero_add, Nat.add_zero, not_true_eq_false, not_false_eq_true, nIm1, ek, ea, e15, mr_o', mr_j, mr_15, k11', k50, k51, k60', k70, k71, bI_k, rns, hh]
theorem mm_4 {w : MW} {a m t : Nat} {x : Int32} (hm : m < 8) (ek : w.1 66 m = nI 4) (ea : w.1 67 m = nI a) (e15 : w.1 62 15 = nI t) (ht : t < 10) : f_M_makesBy w (nI m) x = some (some (.int ((x + nI m - nI m) * nI 2)), rns w [11, 51, 10]) := by
  have hh := fun x => mh_4 (w := (u_M_ran w (nI 11))) (a := a) (m := m) (t := t + 1) (x := x) hm (by rw [mr_o' (by omega) (by omega)];  exact ek) (by rw [mr_o' (by omega) (by omega)]; exact ea) (by rw [mr_15, e15, nI_add]) (by omega)
  unfold f_M_makesBy
  simp (disch := omega) only [k0, k1, k2, k3, k4, k5, k6, k7, k8, k9, k10, k12, k20, k30, k31, k40, k99, k160, ite_self, nI_add, nI_leI, nI_ltI, nI_eq, nI_clamp, nI_sub', nI_mul, vpb_n, eq_self, implies_true, grd_t, grd_i, if_pos, if_neg, bI_k, bV_k, bx0, bx1, mh0, mh1, rd_s, rd_o, rd_j, rd_2k, rdL_1k, ↓reduceIte, Bool.false_eq_true, Bool.true_eq_false, Nat.add_eq, Nat.zero_add, Nat.add_zero, not_true_eq_false, not_false_eq_true, nIm1, ek, ea, e15, mr_o', mr_j, mr_15, k11', k50, k51, k60', k70, k71, bI_k, rns, hh]
theorem mm_5 {w : MW} {a m t : Nat} {x : Int32} (hm : m < 8) (ek : w.1 66 m = nI 5) (ea : w.1 67 m = nI a) (e15 : w.1 62 15 = nI t) (ht : t < 10) : f_M_makesBy w (nI m) x = some (some (.int (((x + nI m) * nI 2) * nI 3)), rns w [30, 11, 10]) := by
  have hh := fun x => mh_5 (w := (u_M_ran (u_M_ran w (nI 30)) (nI 11))) (a := a) (m := m) (t := t + 2) (x := x) hm (by rw [mr_o' (by omega) (by omega), mr_o' (by omega) (by omega)];  exact ek) (by rw [mr_o' (by omega) (by omega), mr_o' (by omega) (by omega)]; exact ea) (by rw [mr_15, mr_15, e15, nI_add, nI_add]) (by omega)
  unfold f_M_makesBy
  simp (disch := omega) only [k0, k1, k2, k3, k4, k5, k6, k7, k8, k9, k10, k12, k20, k30, k31, k40, k99, k160, ite_self, nI_add, nI_leI, nI_ltI, nI_eq, nI_clamp, nI_sub', nI_mul, vpb_n, eq_self, implies_true, grd_t, grd_i, if_pos, if_neg, bI_k, bV_k, bx0, bx1, mh0, mh1, rd_s, rd_o, rd_j, rd_2k, rdL_1k, ↓reduceIte, Bool.false_eq_true, Bool.true_eq_false, Nat.add_eq, Nat.zero_add, Nat.add_zero, not_true_eq_false, not_false_eq_true, nIm1, ek, ea, e15, mr_o', mr_j, mr_15, k11', k50, k51, k60', k70, k71, bI_k, rns, hh]
theorem mm_6 {w : MW} {a m t : Nat} {x : Int32} (hm : m < 8) (ek : w.1 66 m = nI 6) (ea : w.1 67 m = nI a) (e15 : w.1 62 15 = nI t) (ht : t < 10) : f_M_makesBy w (nI m) x = some (some (.int (((((x - nI a) + nI m) - nI m) * nI 2) * nI 2)), rns w [71, 11, 70, 51, 10]) := by
  have hh := fun x => mh_6 (w := (u_M_ran (u_M_ran w (nI 71)) (nI 11))) (a := a) (m := m) (t := t + 2) (x := x) hm (by rw [mr_o' (by omega) (by omega), mr_o' (by omega) (by omega)];  exact ek) (by rw [mr_o' (by omega) (by omega), mr_o' (by omega) (by omega)]; exact ea) (by rw [mr_15, mr_15, e15, nI_add, nI_add]) (by omega)
  unfold f_M_makesBy
  simp (disch := omega) only [k0, k1, k2, k3, k4, k5, k6, k7, k8, k9, k10, k12, k20, k30, k31, k40, k99, k160, ite_self, nI_add, nI_leI, nI_ltI, nI_eq, nI_clamp, nI_sub', nI_mul, vpb_n, eq_self, implies_true, grd_t, grd_i, if_pos, if_neg, bI_k, bV_k, bx0, bx1, mh0, mh1, rd_s, rd_o, rd_j, rd_2k, rdL_1k, ↓reduceIte, Bool.false_eq_true, Bool.true_eq_false, Nat.add_eq, Nat.zero_add, Nat.add_zero, not_true_eq_false, not_false_eq_true, nIm1, ek, ea, e15, mr_o', mr_j, mr_15, k11', k50, k51, k60', k70, k71, bI_k, rns, hh]
theorem mt_0 {w : MW} {a m t : Nat} {x : Int32} (hm : m < 8) (ek : w.1 66 m = nI 0) (ea : w.1 67 m = nI a) (e15 : w.1 62 15 = nI t) (ht : t < 2) : f_M_tellsBy w (nI m) x = some (some (.int (((x + nI m) * nI 2) ^^^ ((x - nI a) + nI m))), rns w [12, 11, 10, 10]) := by
  have hh := fun x => mm_0 (w := (u_M_ran w (nI 12))) (a := a) (m := m) (t := t + 1) (x := x) hm (by rw [mr_o' (by omega) (by omega)]; exact ek) (by rw [mr_o' (by omega) (by omega)]; exact ea) (by rw [mr_15, e15, nI_add]) (by omega)
  have h2 := fun x => mh_0 (w := (u_M_ran (u_M_ran (u_M_ran w (nI 12)) (nI 11)) (nI 10))) (a := a) (m := m) (t := t + 3) (x := x) hm (by rw [mr_o' (by omega) (by omega), mr_o' (by omega) (by omega), mr_o' (by omega) (by omega)]; exact ek) (by rw [mr_o' (by omega) (by omega), mr_o' (by omega) (by omega), mr_o' (by omega) (by omega)]; exact ea) (by rw [mr_15, mr_15, mr_15, e15, nI_add, nI_add, nI_add]) (by omega)
  simp only [rns] at hh
  unfold f_M_tellsBy
  simp (disch := omega) only [k0, k1, k2, k3, k4, k5, k6, k7, k8, k9, k10, k12, k20, k30, k31, k40, k99, k160, ite_self, nI_add, nI_leI, nI_ltI, nI_eq, nI_clamp, nI_sub', nI_mul, vpb_n, eq_self, implies_true, grd_t, grd_i, if_pos, if_neg, bI_k, bV_k, bx0, bx1, mh0, mh1, rd_s, rd_o, rd_j, rd_2k, rdL_1k, ↓reduceIte, Bool.false_eq_true, Bool.true_eq_false, Nat.add_eq, Nat.zero_add, Nat.add_zero, not_true_eq_false, not_false_eq_true, nIm1, ek, ea, e15, mr_o', mr_j, mr_15, k11', k50, k51, k60', k70, k71, bI_k, rns, hh, h2]
theorem mt_1 {w : MW} {a m t : Nat} {x : Int32} (hm : m < 8) (ek : w.1 66 m = nI 1) (ea : w.1 67 m = nI a) (e15 : w.1 62 15 = nI t) (ht : t < 2) : f_M_tellsBy w (nI m) x = some (some (.int (((x + nI m + nI a) * nI 2) ^^^ ((x - nI a) + nI m + nI a))), rns w [12, 11, 20, 10, 20, 10]) := by
  have hh := fun x => mm_1 (w := (u_M_ran w (nI 12))) (a := a) (m := m) (t := t + 1) (x := x) hm (by rw [mr_o' (by omega) (by omega)]; exact ek) (by rw [mr_o' (by omega) (by omega)]; exact ea) (by rw [mr_15, e15, nI_add]) (by omega)
  have h2 := fun x => mh_1 (w := (u_M_ran (u_M_ran (u_M_ran (u_M_ran w (nI 12)) (nI 11)) (nI 20)) (nI 10))) (a := a) (m := m) (t := t + 4) (x := x) hm (by rw [mr_o' (by omega) (by omega), mr_o' (by omega) (by omega), mr_o' (by omega) (by omega), mr_o' (by omega) (by omega)]; exact ek) (by rw [mr_o' (by omega) (by omega), mr_o' (by omega) (by omega), mr_o' (by omega) (by omega), mr_o' (by omega) (by omega)]; exact ea) (by rw [mr_15, mr_15, mr_15, mr_15, e15, nI_add, nI_add, nI_add, nI_add]) (by omega)
  simp only [rns] at hh
  unfold f_M_tellsBy
  simp (disch := omega) only [k0, k1, k2, k3, k4, k5, k6, k7, k8, k9, k10, k12, k20, k30, k31, k40, k99, k160, ite_self, nI_add, nI_leI, nI_ltI, nI_eq, nI_clamp, nI_sub', nI_mul, vpb_n, eq_self, implies_true, grd_t, grd_i, if_pos, if_neg, bI_k, bV_k, bx0, bx1, mh0, mh1, rd_s, rd_o, rd_j, rd_2k, rdL_1k, ↓reduceIte, Bool.false_eq_true, Bool.true_eq_false, Nat.add_eq, Nat.zero_add, Nat.add_zero, not_true_eq_false, not_false_eq_true, nIm1, ek, ea, e15, mr_o', mr_j, mr_15, k11', k50, k51, k60', k70, k71, bI_k, rns, hh, h2]
theorem mt_2 {w : MW} {a m t : Nat} {x : Int32} (hm : m < 8) (ek : w.1 66 m = nI 2) (ea : w.1 67 m = nI a) (e15 : w.1 62 15 = nI t) (ht : t < 2) : f_M_tellsBy w (nI m) x = some (some (.int ((((x + nI m) * nI 2) * nI 3) ^^^ ((x - nI a) + nI m))), rns w [12, 30, 11, 10, 10]) := by
  have hh := fun x => mm_2 (w := (u_M_ran w (nI 12))) (a := a) (m := m) (t := t + 1) (x := x) hm (by rw [mr_o' (by omega) (by omega)]; exact ek) (by rw [mr_o' (by omega) (by omega)]; exact ea) (by rw [mr_15, e15, nI_add]) (by omega)
  have h2 := fun x => mh_2 (w := (u_M_ran (u_M_ran (u_M_ran (u_M_ran w (nI 12)) (nI 30)) (nI 11)) (nI 10))) (a := a) (m := m) (t := t + 4) (x := x) hm (by rw [mr_o' (by omega) (by omega), mr_o' (by omega) (by omega), mr_o' (by omega) (by omega), mr_o' (by omega) (by omega)]; exact ek) (by rw [mr_o' (by omega) (by omega), mr_o' (by omega) (by omega), mr_o' (by omega) (by omega), mr_o' (by omega) (by omega)]; exact ea) (by rw [mr_15, mr_15, mr_15, mr_15, e15, nI_add, nI_add, nI_add, nI_add]) (by omega)
  simp only [rns] at hh
  unfold f_M_tellsBy
  simp (disch := omega) only [k0, k1, k2, k3, k4, k5, k6, k7, k8, k9, k10, k12, k20, k30, k31, k40, k99, k160, ite_self, nI_add, nI_leI, nI_ltI, nI_eq, nI_clamp, nI_sub', nI_mul, vpb_n, eq_self, implies_true, grd_t, grd_i, if_pos, if_neg, bI_k, bV_k, bx0, bx1, mh0, mh1, rd_s, rd_o, rd_j, rd_2k, rdL_1k, ↓reduceIte, Bool.false_eq_true, Bool.true_eq_false, Nat.add_eq, Nat.zero_add, Nat.add_zero, not_true_eq_false, not_false_eq_true, nIm1, ek, ea, e15, mr_o', mr_j, mr_15, k11', k50, k51, k60', k70, k71, bI_k, rns, hh, h2]
theorem mt_3 {w : MW} {a m t : Nat} {x : Int32} (hm : m < 8) (ek : w.1 66 m = nI 3) (ea : w.1 67 m = nI a) (e15 : w.1 62 15 = nI t) (ht : t < 2) : f_M_tellsBy w (nI m) x = some (some (.int ((((x + nI 1) + nI m + nI a) * nI 2) ^^^ ((x - nI a) + nI m + nI a))), rns w [12, 40, 11, 20, 10, 20, 10]) := by
  have hh := fun x => mm_3 (w := (u_M_ran w (nI 12))) (a := a) (m := m) (t := t + 1) (x := x) hm (by rw [mr_o' (by omega) (by omega)]; exact ek) (by rw [mr_o' (by omega) (by omega)]; exact ea) (by rw [mr_15, e15, nI_add]) (by omega)
  have h2 := fun x => mh_3 (w := (u_M_ran (u_M_ran (u_M_ran (u_M_ran (u_M_ran w (nI 12)) (nI 40)) (nI 11)) (nI 20)) (nI 10))) (a := a) (m := m) (t := t + 5) (x := x) hm (by rw [mr_o' (by omega) (by omega), mr_o' (by omega) (by omega), mr_o' (by omega) (by omega), mr_o' (by omega) (by omega), mr_o' (by omega) (by omega)]; exact ek) (by rw [mr_o' (by omega) (by omega), mr_o' (by omega) (by omega), mr_o' (by omega) (by omega), mr_o' (by omega) (by omega), mr_o' (by omega) (by omega)]; exact ea) (by rw [mr_15, mr_15, mr_15, mr_15, mr_15, e15, nI_add, nI_add, nI_add, nI_add, nI_add]) (by omega)
  simp only [rns] at hh
  unfold f_M_tellsBy
  simp (disch := omega) only [k0, k1, k2, k3, k4, k5, k6, k7, k8, k9, k10, k12, k20, k30, k31, k40, k99, k160, ite_self, nI_add, nI_leI, nI_ltI, nI_eq, nI_clamp, nI_sub', nI_mul, vpb_n, eq_self, implies_true, grd_t, grd_i, if_pos, if_neg, bI_k, bV_k, bx0, bx1, mh0, mh1, rd_s, rd_o, rd_j, rd_2k, rdL_1k, ↓reduceIte, Bool.false_eq_true, Bool.true_eq_false, Nat.add_eq, Nat.zero_add, Nat.add_zero, not_true_eq_false, not_false_eq_true, nIm1, ek, ea, e15, mr_o', mr_j, mr_15, k11', k50, k51, k60', k70, k71, bI_k, rns, hh, h2]
theorem mt_4 {w : MW} {a m t : Nat} {x : Int32} (hm : m < 8) (ek : w.1 66 m = nI 4) (ea : w.1 67 m = nI a) (e15 : w.1 62 15 = nI t) (ht : t < 2) : f_M_tellsBy w (nI m) x = some (some (.int (-(((x + nI m - nI m) * nI 2) ^^^ ((x - nI a) + nI m - nI m)))), rns w [50, 12, 11, 51, 10, 51, 10]) := by
  have hh := fun x => mm_4 (w := (u_M_ran (u_M_ran w (nI 50)) (nI 12))) (a := a) (m := m) (t := t + 2) (x := x) hm (by rw [mr_o' (by omega) (by omega), mr_o' (by omega) (by omega)]; exact ek) (by rw [mr_o' (by omega) (by omega), mr_o' (by omega) (by omega)]; exact ea) (by rw [mr_15, mr_15, e15, nI_add, nI_add]) (by omega)
  have h2 := fun x => mh_4 (w := (u_M_ran (u_M_ran (u_M_ran (u_M_ran (u_M_ran w (nI 50)) (nI 12)) (nI 11)) (nI 51)) (nI 10))) (a := a) (m := m) (t := t + 5) (x := x) hm (by rw [mr_o' (by omega) (by omega), mr_o' (by omega) (by omega), mr_o' (by omega) (by omega), mr_o' (by omega) (by omega), mr_o' (by omega) (by omega)]; exact ek) (by rw [mr_o' (by omega) (by omega), mr_o' (by omega) (by omega), mr_o' (by omega) (by omega), mr_o' (by omega) (by omega), mr_o' (by omega) (by omega)]; exact ea) (by rw [mr_15, mr_15, mr_15, mr_15, mr_15, e15, nI_add, nI_add, nI_add, nI_add, nI_add]) (by omega)
  simp only [rns] at hh
  unfold f_M_tellsBy
  simp (disch := omega) only [k0, k1, k2, k3, k4, k5, k6, k7, k8, k9, k10, k12, k20, k30, k31, k40, k99, k160, ite_self, nI_add, nI_leI, nI_ltI, nI_eq, nI_clamp, nI_sub', nI_mul, vpb_n, eq_self, implies_true, grd_t, grd_i, if_pos, if_neg, bI_k, bV_k, bx0, bx1, mh0, mh1, rd_s, rd_o, rd_j, rd_2k, rdL_1k, ↓reduceIte, Bool.false_eq_true, Bool.true_eq_false, Nat.add_eq, Nat.zero_add, Nat.add_zero, not_true_eq_false, not_false_eq_true, nIm1, ek, ea, e15, mr_o', mr_j, mr_15, k11', k50, k51, k60', k70, k71, bI_k, rns, hh, h2]
theorem mt_5 {w : MW} {a m t : Nat} {x : Int32} (hm : m < 8) (ek : w.1 66 m = nI 5) (ea : w.1 67 m = nI a) (e15 : w.1 62 15 = nI t) (ht : t < 2) : f_M_tellsBy w (nI m) x = some (some (.int (((((x + nI m) * nI 2) * nI 3) ^^^ ((x - nI a) + nI m)) ^^^ nI 5)), rns w [60, 12, 30, 11, 10, 10]) := by
  have hh := fun x => mm_5 (w := (u_M_ran (u_M_ran w (nI 60)) (nI 12))) (a := a) (m := m) (t := t + 2) (x := x) hm (by rw [mr_o' (by omega) (by omega), mr_o' (by omega) (by omega)]; exact ek) (by rw [mr_o' (by omega) (by omega), mr_o' (by omega) (by omega)]; exact ea) (by rw [mr_15, mr_15, e15, nI_add, nI_add]) (by omega)
  have h2 := fun x => mh_5 (w := (u_M_ran (u_M_ran (u_M_ran (u_M_ran (u_M_ran w (nI 60)) (nI 12)) (nI 30)) (nI 11)) (nI 10))) (a := a) (m := m) (t := t + 5) (x := x) hm (by rw [mr_o' (by omega) (by omega), mr_o' (by omega) (by omega), mr_o' (by omega) (by omega), mr_o' (by omega) (by omega), mr_o' (by omega) (by omega)]; exact ek) (by rw [mr_o' (by omega) (by omega), mr_o' (by omega) (by omega), mr_o' (by omega) (by omega), mr_o' (by omega) (by omega), mr_o' (by omega) (by omega)]; exact ea) (by rw [mr_15, mr_15, mr_15, mr_15, mr_15, e15, nI_add, nI_add, nI_add, nI_add, nI_add]) (by omega)
  simp only [rns] at hh
  unfold f_M_tellsBy
  simp (disch := omega) only [k0, k1, k2, k3, k4, k5, k6, k7, k8, k9, k10, k12, k20, k30, k31, k40, k99, k160, ite_self, nI_add, nI_leI, nI_ltI, nI_eq, nI_clamp, nI_sub', nI_mul, vpb_n, eq_self, implies_true, grd_t, grd_i, if_pos, if_neg, bI_k, bV_k, bx0, bx1, mh0, mh1, rd_s, rd_o, rd_j, rd_2k, rdL_1k, ↓reduceIte, Bool.false_eq_true, Bool.true_eq_false, Nat.add_eq, Nat.zero_add, Nat.add_zero, not_true_eq_false, not_false_eq_true, nIm1, ek, ea, e15, mr_o', mr_j, mr_15, k11', k50, k51, k60', k70, k71, bI_k, rns, hh, h2]
theorem mt_6 {w : MW} {a m t : Nat} {x : Int32} (hm : m < 8) (ek : w.1 66 m = nI 6) (ea : w.1 67 m = nI a) (e15 : w.1 62 15 = nI t) (ht : t < 2) : f_M_tellsBy w (nI m) x = some (some (.int (-((((((x - nI a) + nI m) - nI m) * nI 2) * nI 2) ^^^ ((((x - nI a) + nI m) - nI m) * nI 2)))), rns w [50, 12, 71, 11, 70, 51, 10, 70, 51, 10]) := by
  have hh := fun x => mm_6 (w := (u_M_ran (u_M_ran w (nI 50)) (nI 12))) (a := a) (m := m) (t := t + 2) (x := x) hm (by rw [mr_o' (by omega) (by omega), mr_o' (by omega) (by omega)]; exact ek) (by rw [mr_o' (by omega) (by omega), mr_o' (by omega) (by omega)]; exact ea) (by rw [mr_15, mr_15, e15, nI_add, nI_add]) (by omega)
  have h2 := fun x => mh_6 (w := (u_M_ran (u_M_ran (u_M_ran (u_M_ran (u_M_ran (u_M_ran (u_M_ran w (nI 50)) (nI 12)) (nI 71)) (nI 11)) (nI 70)) (nI 51)) (nI 10))) (a := a) (m := m) (t := t + 7) (x := x) hm (by rw [mr_o' (by omega) (by omega), mr_o' (by omega) (by omega), mr_o' (by omega) (by omega), mr_o' (by omega) (by omega), mr_o' (by omega) (by omega), mr_o' (by omega) (by omega), mr_o' (by omega) (by omega)]; exact ek) (by rw [mr_o' (by omega) (by omega), mr_o' (by omega) (by omega), mr_o' (by omega) (by omega), mr_o' (by omega) (by omega), mr_o' (by omega) (by omega), mr_o' (by omega) (by omega), mr_o' (by omega) (by omega)]; exact ea) (by rw [mr_15, mr_15, mr_15, mr_15, mr_15, mr_15, mr_15, e15, nI_add, nI_add, nI_add, nI_add, nI_add, nI_add, nI_add]) (by omega)
  simp only [rns] at hh
  unfold f_M_tellsBy
  simp (disch := omega) only [k0, k1, k2, k3, k4, k5, k6, k7, k8, k9, k10, k12, k20, k30, k31, k40, k99, k160, ite_self, nI_add, nI_leI, nI_ltI, nI_eq, nI_clamp, nI_sub', nI_mul, vpb_n, eq_self, implies_true, grd_t, grd_i, if_pos, if_neg, bI_k, bV_k, bx0, bx1, mh0, mh1, rd_s, rd_o, rd_j, rd_2k, rdL_1k, ↓reduceIte, Bool.false_eq_true, Bool.true_eq_false, Nat.add_eq, Nat.zero_add, Nat.add_zero, not_true_eq_false, not_false_eq_true, nIm1, ek, ea, e15, mr_o', mr_j, mr_15, k11', k50, k51, k60', k70, k71, bI_k, rns, hh, h2]
theorem act_end {sc : Nat → Int32} {N : Nat} {w w1 w2 : MW} (h : Inv sc N w) {l : List Nat} (hl : l.length ≤ 20) (e1 : ∀ a, a ≠ 60 → w1.1 a = w.1 a) (e1s : w1.1 60 1 = nI 0) (e12 : w1.2 = w.2) (e2 : w2 = rns (setI (nts w1 l) 62 15 (nI 0)) l) : Inv sc N w2 := by
  obtain ⟨⟨n, L, K, A, F, M, S, g1, g2⟩, g3, g4, g5, g6⟩ := h
  obtain ⟨n1, n2, n3, n4, n5, n6⟩ := nts_f l w1 0 e1s (by omega)
  obtain ⟨m1, m2, m3, m4, m5, m6⟩ := rns_f l (setI (nts w1 l) 62 15 (nI 0)) 0 rd_s (by omega)
  subst e2
  have key : ∀ a j, a ≠ 60 → a ≠ 61 → a ≠ 74 → ¬ (a = 62 ∧ j = 15) → (rns (setI (nts w1 l) 62 15 (nI 0)) l).1 a j = w.1 a j := by
    intro a j q1 q2 q3 q4
    by_cases c : a = 62
    · subst c
      rw [m5 j (by omega), rd_j (by omega), n4 62 (by omega) (by omega), e1 62 (by omega)]
    · rw [m4 a c q3, rd_o c, n4 a q1 q2, e1 a q1]
  have k2 : (rns (setI (nts w1 l) 62 15 (nI 0)) l).2 = w.2 := by rw [m6, rd_2, n6, e12]
  have k60 : ∀ j, (rns (setI (nts w1 l) 62 15 (nI 0)) l).1 60 j = (nts w1 l).1 60 j := fun j => by rw [m4 60 (by omega) (by omega), rd_o (by omega)]
  have k61 : ∀ j, (rns (setI (nts w1 l) 62 15 (nI 0)) l).1 61 j = (nts w1 l).1 61 j := fun j => by rw [m4 61 (by omega) (by omega), rd_o (by omega)]
  refine ⟨⟨n, L, K, A, F, M, S, g1.ag (fun a j p => ?_), fun s hs => (g2 s hs).ag hs (fun a j p => ?_) (by rw [k2])⟩, g3.ag (fun a j p => ?_), ⟨l.length, by omega, ?_, ?_, fun i hi h20 => ?_⟩, g5.ag (fun a j p => ?_), g6.ag (fun a q => ?_) (by rw [k2]) (key 62 10 (by omega) (by omega) (by omega) (by omega)) (fun p => key 72 p (by omega) (by omega) (by omega) (by omega))⟩
  · unfold pCT at p
    exact key a j (by omega) (by omega) (by omega) (by omega)
  · unfold pSH at p
    exact key a j (by omega) (by omega) (by omega) (by omega)
  · unfold pFR at p
    exact key a j (by omega) (by omega) (by omega) (by omega)
  · rw [k60, n1, Nat.zero_add]
  · rw [m1, Nat.zero_add]
  · have a1 := n2 i hi
    have a2 := m2 i hi
    rw [Nat.zero_add] at a1 a2
    rw [k61, a1, a2]
  · unfold pIM at p
    exact key a j (by omega) (by omega) (by omega) (by omega)
  · funext j
    exact key a j (by omega) (by omega) (by omega) (by omega)
theorem sim_act (x1 x2 x3 : Int32) : SIM (fun w => f_X_act w x1 x2 x3) (fun w => f_M_act w x1 x2 x3) := by
  intro sc N w h
  have h0 := h
  obtain ⟨⟨n, L, K, A, F, M, S, g1, g2⟩, g3, g4, g5, g6⟩ := h0
  have hn := g1.2.2.1.1
  have ok := g1.2.2.1
  show EI (f_X_act w x1 x2 x3) (fun v w1 => EI (f_M_act w1 x1 x2 x3) (fun v' w2 => v' = v ∧ Inv sc N w2))
  have inv0 : Inv sc N (setI (setI w 60 1 (nI 0)) 62 15 (nI 0)) := act_end (l := []) h (by simp) (w1 := setI w 60 1 (nI 0)) (fun a q => rd_o q) rd_s rd_2 rfl
  have eF : u_Mv_forget w = setI w 60 1 (nI 0) := rfl
  unfold f_X_act
  rw [eF]
  have c1 : (setI w 60 1 (nI 0)).1 1 1 = nI n := by rw [rd_o (by omega)]; exact g1.1.1
  have c3 : (setI (setI w 60 1 (nI 0)) 62 15 (nI 0)).1 62 3 = nI n := by rw [rd_j (by omega), rd_o (by omega)]; exact g1.2.1.1
  rcases tri x1 n (by omega) with hb | ⟨m, hm, rfl⟩
  · rw [man_b c1 hb]
    simp (disch := omega) only [k0, k1, k2, k3, k4, k5, k6, k7, k8, k9, k10, k12, k20, k30, k31, k40, k99, k160, ite_self, nI_add, nI_leI, nI_ltI, nI_eq, nI_clamp, nI_sub', nI_mul, vpb_n, eq_self, implies_true, grd_t, grd_i, if_pos, if_neg, bI_k, bV_k, bx0, bx1, mh0, mh1, rd_s, rd_o, rd_j, rd_2k, rdL_1k, ↓reduceIte, Bool.false_eq_true, Bool.true_eq_false, Nat.add_eq, Nat.zero_add, Nat.add_zero, not_true_eq_false, not_false_eq_true]
    refine Ev.i ?_
    unfold f_M_act
    rw [show (0 : Int32) = nI 0 from k0, mman_b (n := n) c3 (by omega) hb]
    simp (disch := omega) only [k0, k1, k2, k3, k4, k5, k6, k7, k8, k9, k10, k12, k20, k30, k31, k40, k99, k160, ite_self, nI_add, nI_leI, nI_ltI, nI_eq, nI_clamp, nI_sub', nI_mul, vpb_n, eq_self, implies_true, grd_t, grd_i, if_pos, if_neg, bI_k, bV_k, bx0, bx1, mh0, mh1, rd_s, rd_o, rd_j, rd_2k, rdL_1k, ↓reduceIte, Bool.false_eq_true, Bool.true_eq_false, Nat.add_eq, Nat.zero_add, Nat.add_zero, not_true_eq_false, not_false_eq_true]
    exact Ev.i ⟨rfl, inv0⟩
  rw [man_g c1 hm (by omega)]
  have mg := mman_g (n := n) c3 (by omega) hm
  rcases tri x2 3 (by omega) with hb | ⟨mv, hmv, rfl⟩
  · have r0 : EI (f_M_act (setI w 60 1 (nI 0)) (nI m) x2 x3) (fun v' w2 => v' = nI 0 ∧ Inv sc N w2) := by
      unfold f_M_act
      have e3 : v_M_within (setI (setI w 60 1 (nI 0)) 62 15 (nI 0)) x2 (0 : Int32) (2 : Int32) = nI 0 := wi_b (n := 3) (by omega) (by decide) hb
      rw [k0] at e3 ⊢
      rw [mg, e3]
      simp (disch := omega) only [k0, k1, k2, k3, k4, k5, k6, k7, k8, k9, k10, k12, k20, k30, k31, k40, k99, k160, ite_self, nI_add, nI_leI, nI_ltI, nI_eq, nI_clamp, nI_sub', nI_mul, vpb_n, eq_self, implies_true, grd_t, grd_i, if_pos, if_neg, bI_k, bV_k, bx0, bx1, mh0, mh1, rd_s, rd_o, rd_j, rd_2k, rdL_1k, ↓reduceIte, Bool.false_eq_true, Bool.true_eq_false, Nat.add_eq, Nat.zero_add, Nat.add_zero, not_true_eq_false, not_false_eq_true]
      exact Ev.i ⟨rfl, inv0⟩
    rcases hb with q | q
    · have q' : x2 < nI 0 := q
      simp (disch := omega) only [k0, k1, k2, k3, k4, k5, k6, k7, k8, k9, k10, k12, k20, k30, k31, k40, k99, k160, ite_self, nI_add, nI_leI, nI_ltI, nI_eq, nI_clamp, nI_sub', nI_mul, vpb_n, eq_self, implies_true, grd_t, grd_i, if_pos, if_neg, bI_k, bV_k, bx0, bx1, mh0, mh1, rd_s, rd_o, rd_j, rd_2k, rdL_1k, ↓reduceIte, Bool.false_eq_true, Bool.true_eq_false, Nat.add_eq, Nat.zero_add, Nat.add_zero, not_true_eq_false, not_false_eq_true, q']
      exact Ev.i r0
    · have q3 : ¬ x2 < nI 3 := Int32.not_lt.mpr q
      by_cases q0 : x2 < nI 0
      · simp (disch := omega) only [k0, k1, k2, k3, k4, k5, k6, k7, k8, k9, k10, k12, k20, k30, k31, k40, k99, k160, ite_self, nI_add, nI_leI, nI_ltI, nI_eq, nI_clamp, nI_sub', nI_mul, vpb_n, eq_self, implies_true, grd_t, grd_i, if_pos, if_neg, bI_k, bV_k, bx0, bx1, mh0, mh1, rd_s, rd_o, rd_j, rd_2k, rdL_1k, ↓reduceIte, Bool.false_eq_true, Bool.true_eq_false, Nat.add_eq, Nat.zero_add, Nat.add_zero, not_true_eq_false, not_false_eq_true, q0]
        exact Ev.i r0
      · simp (disch := omega) only [k0, k1, k2, k3, k4, k5, k6, k7, k8, k9, k10, k12, k20, k30, k31, k40, k99, k160, ite_self, nI_add, nI_leI, nI_ltI, nI_eq, nI_clamp, nI_sub', nI_mul, vpb_n, eq_self, implies_true, grd_t, grd_i, if_pos, if_neg, bI_k, bV_k, bx0, bx1, mh0, mh1, rd_s, rd_o, rd_j, rd_2k, rdL_1k, ↓reduceIte, Bool.false_eq_true, Bool.true_eq_false, Nat.add_eq, Nat.zero_add, Nat.add_zero, not_true_eq_false, not_false_eq_true, q0, q3]
        exact Ev.i r0
  have v0 : ¬ nI mv < nI 0 := nI_pos (by omega)
  obtain ⟨a1, a2, a3, a4⟩ := g1.1.2.2.1 m hm
  obtain ⟨d1, d2, d3, d4⟩ := g1.2.1.2.2.1 m hm
  obtain ⟨b1, b2, b3⟩ := ok.2.2 m hm
  generalize hkk : K m = kk at *
  generalize haa : A m = aa at *
  unfold f_Mv_play
  simp (disch := omega) only [k0, k1, k2, k3, k4, k5, k6, k7, k8, k9, k10, k12, k20, k30, k31, k40, k99, k160, ite_self, nI_add, nI_leI, nI_ltI, nI_eq, nI_clamp, nI_sub', nI_mul, vpb_n, eq_self, implies_true, grd_t, grd_i, if_pos, if_neg, bI_k, bV_k, bx0, bx1, mh0, mh1, rd_s, rd_o, rd_j, rd_2k, rdL_1k, ↓reduceIte, Bool.false_eq_true, Bool.true_eq_false, Nat.add_eq, Nat.zero_add, Nat.add_zero, not_true_eq_false, not_false_eq_true, v0, a1, a2]
  generalize hw1 : setI (setI (setI (setI w 60 1 (nI 0)) 60 2 (nI m)) 60 3 (nI kk)) 60 4 (nI aa) = w1
  have e60 : ∀ a, a ≠ 60 → w1.1 a = w.1 a := fun a q => by rw [← hw1, rd_o q, rd_o q, rd_o q, rd_o q]
  have e601 : w1.1 60 1 = nI 0 := by rw [← hw1, rd_j (by omega), rd_j (by omega), rd_j (by omega), rd_s]
  have mvh : MV w1 kk aa m 0 := ⟨fun j hj => by rw [e60 81 (by omega)]; exact g6.1 j hj, fun j hj => by rw [e60 82 (by omega)]; exact g6.2.1 j hj, by rw [← hw1, rd_j (by omega), rd_j (by omega), rd_s], by rw [← hw1, rd_j (by omega), rd_s], by rw [← hw1, rd_s], e601⟩
  have e12 : w1.2 = w.2 := by rw [← hw1, rd_2, rd_2, rd_2, rd_2]
  have fin : ∀ (v : Int32) (l : List Nat), l.length ≤ 20 → f_Mv_run w1 (nI kk) (nI mv) x3 (nI 0) = some (some (.int v), nts w1 l) →
      (∀ w', w'.1 66 m = nI kk → w'.1 67 m = nI aa → w'.1 62 15 = nI 0 → (if mv = 0 then f_M_hearsBy w' (nI m) x3 else if mv = 1 then f_M_makesBy w' (nI m) x3 else f_M_tellsBy w' (nI m) x3) = some (some (.int v), rns w' l)) →
      EI (bI (bI (f_Mv_run w1 (nI kk) (nI mv) x3 (nI 0)) (fun v1 w1 => some (some (.int v1), w1))) (fun v8 w8 => some (some (.int v8), w8))) (fun v w1 => EI (f_M_act w1 (nI m) (nI mv) x3) (fun v' w2 => v' = v ∧ Inv sc N w2)) := by
    intro v l hl eX eM
    rw [eX]
    simp only [bI_k]
    refine Ev.i ?_
    obtain ⟨n1, n2, n3, n4, n5, n6⟩ := nts_f l w1 0 e601 (by omega)
    have eq := eM (setI (nts w1 l) 62 15 (nI 0)) (by rw [rd_o (by omega), n4 66 (by omega) (by omega), e60 66 (by omega)]; exact d1) (by rw [rd_o (by omega), n4 67 (by omega) (by omega), e60 67 (by omega)]; exact d2) rd_s
    have inv2 := act_end h hl e60 e601 e12 (Eq.refl (rns (setI (nts w1 l) 62 15 (nI 0)) l))
    have mg2 : v_M_isMan (setI (nts w1 l) 62 15 (nI 0)) (nI m) = nI 1 := mman_g (n := n) (by rw [rd_j (by omega), n4 62 (by omega) (by omega), e60 62 (by omega)]; exact g1.2.1.1) (by omega) hm
    have wg : v_M_within (setI (nts w1 l) 62 15 (nI 0)) (nI mv) (nI 0) (nI 2) = nI 1 := wi_g (n := 3) (by omega) (by decide) hmv
    have eA : f_M_act (nts w1 l) (nI m) (nI mv) x3 = some (some (.int v), rns (setI (nts w1 l) 62 15 (nI 0)) l) := by
      unfold f_M_act
      rcases (show mv = 0 ∨ mv = 1 ∨ mv = 2 by omega) with rfl | rfl | rfl
      · rw [if_pos rfl] at eq
        simp (disch := omega) only [k0, k1, k2, k3, k4, k5, k6, k7, k8, k9, k10, k12, k20, k30, k31, k40, k99, k160, ite_self, nI_add, nI_leI, nI_ltI, nI_eq, nI_clamp, nI_sub', nI_mul, vpb_n, eq_self, implies_true, grd_t, grd_i, if_pos, if_neg, bI_k, bV_k, bx0, bx1, mh0, mh1, rd_s, rd_o, rd_j, rd_2k, rdL_1k, ↓reduceIte, Bool.false_eq_true, Bool.true_eq_false, Nat.add_eq, Nat.zero_add, Nat.add_zero, not_true_eq_false, not_false_eq_true, mg2, wg, eq]
      · rw [if_neg (by omega), if_pos rfl] at eq
        simp (disch := omega) only [k0, k1, k2, k3, k4, k5, k6, k7, k8, k9, k10, k12, k20, k30, k31, k40, k99, k160, ite_self, nI_add, nI_leI, nI_ltI, nI_eq, nI_clamp, nI_sub', nI_mul, vpb_n, eq_self, implies_true, grd_t, grd_i, if_pos, if_neg, bI_k, bV_k, bx0, bx1, mh0, mh1, rd_s, rd_o, rd_j, rd_2k, rdL_1k, ↓reduceIte, Bool.false_eq_true, Bool.true_eq_false, Nat.add_eq, Nat.zero_add, Nat.add_zero, not_true_eq_false, not_false_eq_true, mg2, wg, eq]
      · rw [if_neg (by omega), if_neg (by omega)] at eq
        simp (disch := omega) only [k0, k1, k2, k3, k4, k5, k6, k7, k8, k9, k10, k12, k20, k30, k31, k40, k99, k160, ite_self, nI_add, nI_leI, nI_ltI, nI_eq, nI_clamp, nI_sub', nI_mul, vpb_n, eq_self, implies_true, grd_t, grd_i, if_pos, if_neg, bI_k, bV_k, bx0, bx1, mh0, mh1, rd_s, rd_o, rd_j, rd_2k, rdL_1k, ↓reduceIte, Bool.false_eq_true, Bool.true_eq_false, Nat.add_eq, Nat.zero_add, Nat.add_zero, not_true_eq_false, not_false_eq_true, mg2, wg, eq]
    rw [eA]
    exact Ev.i ⟨rfl, inv2⟩
  have e60f : f_Mv_run w1 (nI kk) (nI mv) x3 (nI 0) = f_Mv_runN 60 w1 (nI kk) (nI mv) x3 (nI 0) := rfl
  rcases (show mv = 0 ∨ mv = 1 ∨ mv = 2 by omega) with rfl | rfl | rfl
  · rcases (show kk = 0 ∨ kk = 1 ∨ kk = 2 ∨ kk = 3 ∨ kk = 4 ∨ kk = 5 ∨ kk = 6 by omega) with rfl | rfl | rfl | rfl | rfl | rfl | rfl
    · exact fin _ _ (by decide) (e60f.trans (hx_0 (n := 56) mvh (by omega) (by omega))) (fun w' q1 q2 q3 => by rw [if_pos rfl]; exact mh_0 (by omega) q1 q2 q3 (by omega))
    · exact fin _ _ (by decide) (e60f.trans (hx_1 (n := 56) mvh (by omega) (by omega))) (fun w' q1 q2 q3 => by rw [if_pos rfl]; exact mh_1 (by omega) q1 q2 q3 (by omega))
    · exact fin _ _ (by decide) (e60f.trans (hx_2 (n := 56) mvh (by omega) (by omega))) (fun w' q1 q2 q3 => by rw [if_pos rfl]; exact mh_2 (by omega) q1 q2 q3 (by omega))
    · exact fin _ _ (by decide) (e60f.trans (hx_3 (n := 56) mvh (by omega) (by omega))) (fun w' q1 q2 q3 => by rw [if_pos rfl]; exact mh_3 (by omega) q1 q2 q3 (by omega))
    · exact fin _ _ (by decide) (e60f.trans (hx_4 (n := 56) mvh (by omega) (by omega))) (fun w' q1 q2 q3 => by rw [if_pos rfl]; exact mh_4 (by omega) q1 q2 q3 (by omega))
    · exact fin _ _ (by decide) (e60f.trans (hx_5 (n := 56) mvh (by omega) (by omega))) (fun w' q1 q2 q3 => by rw [if_pos rfl]; exact mh_5 (by omega) q1 q2 q3 (by omega))
    · exact fin _ _ (by decide) (e60f.trans (hx_6 (n := 56) mvh (by omega) (by omega))) (fun w' q1 q2 q3 => by rw [if_pos rfl]; exact mh_6 (by omega) q1 q2 q3 (by omega))
  · rcases (show kk = 0 ∨ kk = 1 ∨ kk = 2 ∨ kk = 3 ∨ kk = 4 ∨ kk = 5 ∨ kk = 6 by omega) with rfl | rfl | rfl | rfl | rfl | rfl | rfl
    · exact fin _ _ (by decide) (e60f.trans (mk_0 (n := 52) mvh (by omega) (by omega))) (fun w' q1 q2 q3 => by rw [if_neg (by omega), if_pos rfl]; exact mm_0 (by omega) q1 q2 q3 (by omega))
    · exact fin _ _ (by decide) (e60f.trans (mk_1 (n := 52) mvh (by omega) (by omega))) (fun w' q1 q2 q3 => by rw [if_neg (by omega), if_pos rfl]; exact mm_1 (by omega) q1 q2 q3 (by omega))
    · exact fin _ _ (by decide) (e60f.trans (mk_2 (n := 52) mvh (by omega) (by omega))) (fun w' q1 q2 q3 => by rw [if_neg (by omega), if_pos rfl]; exact mm_2 (by omega) q1 q2 q3 (by omega))
    · exact fin _ _ (by decide) (e60f.trans (mk_3 (n := 52) mvh (by omega) (by omega))) (fun w' q1 q2 q3 => by rw [if_neg (by omega), if_pos rfl]; exact mm_3 (by omega) q1 q2 q3 (by omega))
    · exact fin _ _ (by decide) (e60f.trans (mk_4 (n := 52) mvh (by omega) (by omega))) (fun w' q1 q2 q3 => by rw [if_neg (by omega), if_pos rfl]; exact mm_4 (by omega) q1 q2 q3 (by omega))
    · exact fin _ _ (by decide) (e60f.trans (mk_5 (n := 52) mvh (by omega) (by omega))) (fun w' q1 q2 q3 => by rw [if_neg (by omega), if_pos rfl]; exact mm_5 (by omega) q1 q2 q3 (by omega))
    · exact fin _ _ (by decide) (e60f.trans (mk_6 (n := 52) mvh (by omega) (by omega))) (fun w' q1 q2 q3 => by rw [if_neg (by omega), if_pos rfl]; exact mm_6 (by omega) q1 q2 q3 (by omega))
  · rcases (show kk = 0 ∨ kk = 1 ∨ kk = 2 ∨ kk = 3 ∨ kk = 4 ∨ kk = 5 ∨ kk = 6 by omega) with rfl | rfl | rfl | rfl | rfl | rfl | rfl
    · exact fin _ _ (by decide) (e60f.trans (tl_0 (n := 48) mvh (by omega) (by omega))) (fun w' q1 q2 q3 => by rw [if_neg (by omega), if_neg (by omega)]; exact mt_0 (by omega) q1 q2 q3 (by omega))
    · exact fin _ _ (by decide) (e60f.trans (tl_1 (n := 48) mvh (by omega) (by omega))) (fun w' q1 q2 q3 => by rw [if_neg (by omega), if_neg (by omega)]; exact mt_1 (by omega) q1 q2 q3 (by omega))
    · exact fin _ _ (by decide) (e60f.trans (tl_2 (n := 48) mvh (by omega) (by omega))) (fun w' q1 q2 q3 => by rw [if_neg (by omega), if_neg (by omega)]; exact mt_2 (by omega) q1 q2 q3 (by omega))
    · exact fin _ _ (by decide) (e60f.trans (tl_3 (n := 48) mvh (by omega) (by omega))) (fun w' q1 q2 q3 => by rw [if_neg (by omega), if_neg (by omega)]; exact mt_3 (by omega) q1 q2 q3 (by omega))
    · exact fin _ _ (by decide) (e60f.trans (tl_4 (n := 48) mvh (by omega) (by omega))) (fun w' q1 q2 q3 => by rw [if_neg (by omega), if_neg (by omega)]; exact mt_4 (by omega) q1 q2 q3 (by omega))
    · exact fin _ _ (by decide) (e60f.trans (tl_5 (n := 48) mvh (by omega) (by omega))) (fun w' q1 q2 q3 => by rw [if_neg (by omega), if_neg (by omega)]; exact mt_5 (by omega) q1 q2 q3 (by omega))
    · exact fin _ _ (by decide) (e60f.trans (tl_6 (n := 48) mvh (by omega) (by omega))) (fun w' q1 q2 q3 => by rw [if_neg (by omega), if_neg (by omega)]; exact mt_6 (by omega) q1 q2 q3 (by omega))
