/-! a new courtier; meetings told -/
def upf {α : Type} (f : Nat → α) (n : Nat) (v : α) (i : Nat) : α := if i = n then v else f i
theorem upf_s {α : Type} {f : Nat → α} {n : Nat} {v : α} : upf f n v n = v := if_pos rfl
theorem upf_o {α : Type} {f : Nat → α} {n i : Nat} {v : α} (h : i ≠ n) : upf f n v i = f i := if_neg h
def CF (c : Nat) (w w' : MW) : Prop := (∀ a j, ¬ (c ≤ a ∧ a ≤ c + 10) → w'.1 a j = w.1 a j) ∧ w'.2 = w.2
theorem CF.tr {c : Nat} {a b d : MW} (h1 : CF c a b) (h2 : CF c b d) : CF c a d := ⟨fun k j p => (h2.1 k j p).trans (h1.1 k j p), h2.2.trans h1.2⟩
theorem CF.rfl {c : Nat} (w : MW) : CF c w w := ⟨fun _ _ _ => Eq.refl _, Eq.refl _⟩
theorem CF.set {c a j : Nat} {v : Int32} {w w' : MW} (h : CF c w w') (ha : c ≤ a ∧ a ≤ c + 10) : CF c w (setI w' a j v) := ⟨fun k l p => by rw [rd_o (by omega)]; exact h.1 k l p, by rw [rd_2]; exact h.2⟩
theorem CF.gx {w w' : MW} (h : CF 1 w w') : GX w w' := ⟨fun a j _ q => h.1 a j (by omega), fun a q => by funext j; exact h.1 a j (by omega), h.2⟩
def XC (c : Nat) (w : MW) (n : Nat) (B H : Nat → Int32) : Prop := ∀ i, i < n → w.1 (c + 2 + i) 3 = B i ∧ w.1 (c + 2 + i) 4 = H i
theorem X_addMan {c : Nat} {w : MW} {n L : Nat} {K A F : Nat → Nat} {M S B H : Nat → Int32} (rx : RX c w n L K A F M S) (xc : XC c w n B H) (hn : n < 8) (k a f : Nat) :
    RX c (u_Ct_addMan w c (nI k) (nI a) (nI f)) (n + 1) L (upf K n k) (upf A n a) (upf F n f) (upf M n (nI 0)) S ∧ XC c (u_Ct_addMan w c (nI k) (nI a) (nI f)) (n + 1) (upf B n (-nI 1)) (upf H n (nI 0)) ∧
    (u_Ct_addMan w c (nI k) (nI a) (nI f)).1 c 4 = w.1 c 4 ∧ CF c w (u_Ct_addMan w c (nI k) (nI a) (nI f)) := by
  obtain ⟨h1, h2, h3, h4⟩ := rx
  unfold u_Ct_addMan u_Mn_begin
  simp (disch := omega) only [k0, k1, k2, k3, k4, k5, k6, k7, k8, k9, k10, k12, k20, k30, k31, k40, k99, k160, ite_self, nI_add, nI_leI, nI_ltI, nI_eq, nI_clamp, nI_sub', nI_mul, vpb_n, eq_self, implies_true, grd_t, grd_i, if_pos, if_neg, bI_k, bV_k, bx0, bx1, mh0, mh1, rd_s, rd_o, rd_j, rd_2k, rdL_1k, ↓reduceIte, Bool.false_eq_true, Bool.true_eq_false, Nat.add_eq, Nat.zero_add, Nat.add_zero, not_true_eq_false, not_false_eq_true, h1]
  refine ⟨⟨by rw [rd_s], ?_, fun i hi => ?_, fun p hp => ?_⟩, fun i hi => ?_, ?_, ?_⟩
  · simp (disch := omega) only [k0, k1, k2, k3, k4, k5, k6, k7, k8, k9, k10, k12, k20, k30, k31, k40, k99, k160, ite_self, nI_add, nI_leI, nI_ltI, nI_eq, nI_clamp, nI_sub', nI_mul, vpb_n, eq_self, implies_true, grd_t, grd_i, if_pos, if_neg, bI_k, bV_k, bx0, bx1, mh0, mh1, rd_s, rd_o, rd_j, rd_2k, rdL_1k, ↓reduceIte, Bool.false_eq_true, Bool.true_eq_false, Nat.add_eq, Nat.zero_add, Nat.add_zero, not_true_eq_false, not_false_eq_true]
    exact h2
  · by_cases e : i = n
    · subst e
      rw [upf_s, upf_s, upf_s, upf_s]
      simp (disch := omega) only [k0, k1, k2, k3, k4, k5, k6, k7, k8, k9, k10, k12, k20, k30, k31, k40, k99, k160, ite_self, nI_add, nI_leI, nI_ltI, nI_eq, nI_clamp, nI_sub', nI_mul, vpb_n, eq_self, implies_true, grd_t, grd_i, if_pos, if_neg, bI_k, bV_k, bx0, bx1, mh0, mh1, rd_s, rd_o, rd_j, rd_2k, rdL_1k, ↓reduceIte, Bool.false_eq_true, Bool.true_eq_false, Nat.add_eq, Nat.zero_add, Nat.add_zero, not_true_eq_false, not_false_eq_true]
      exact ⟨trivial, trivial, trivial, trivial⟩
    · rw [upf_o e, upf_o e, upf_o e, upf_o e]
      simp (disch := omega) only [k0, k1, k2, k3, k4, k5, k6, k7, k8, k9, k10, k12, k20, k30, k31, k40, k99, k160, ite_self, nI_add, nI_leI, nI_ltI, nI_eq, nI_clamp, nI_sub', nI_mul, vpb_n, eq_self, implies_true, grd_t, grd_i, if_pos, if_neg, bI_k, bV_k, bx0, bx1, mh0, mh1, rd_s, rd_o, rd_j, rd_2k, rdL_1k, ↓reduceIte, Bool.false_eq_true, Bool.true_eq_false, Nat.add_eq, Nat.zero_add, Nat.add_zero, not_true_eq_false, not_false_eq_true]
      exact h3 i (by omega)
  · simp (disch := omega) only [k0, k1, k2, k3, k4, k5, k6, k7, k8, k9, k10, k12, k20, k30, k31, k40, k99, k160, ite_self, nI_add, nI_leI, nI_ltI, nI_eq, nI_clamp, nI_sub', nI_mul, vpb_n, eq_self, implies_true, grd_t, grd_i, if_pos, if_neg, bI_k, bV_k, bx0, bx1, mh0, mh1, rd_s, rd_o, rd_j, rd_2k, rdL_1k, ↓reduceIte, Bool.false_eq_true, Bool.true_eq_false, Nat.add_eq, Nat.zero_add, Nat.add_zero, not_true_eq_false, not_false_eq_true]
    exact h4 p hp
  · by_cases e : i = n
    · subst e
      rw [upf_s, upf_s]
      simp (disch := omega) only [k0, k1, k2, k3, k4, k5, k6, k7, k8, k9, k10, k12, k20, k30, k31, k40, k99, k160, ite_self, nI_add, nI_leI, nI_ltI, nI_eq, nI_clamp, nI_sub', nI_mul, vpb_n, eq_self, implies_true, grd_t, grd_i, if_pos, if_neg, bI_k, bV_k, bx0, bx1, mh0, mh1, rd_s, rd_o, rd_j, rd_2k, rdL_1k, ↓reduceIte, Bool.false_eq_true, Bool.true_eq_false, Nat.add_eq, Nat.zero_add, Nat.add_zero, not_true_eq_false, not_false_eq_true]
      exact ⟨trivial, trivial⟩
    · rw [upf_o e, upf_o e]
      simp (disch := omega) only [k0, k1, k2, k3, k4, k5, k6, k7, k8, k9, k10, k12, k20, k30, k31, k40, k99, k160, ite_self, nI_add, nI_leI, nI_ltI, nI_eq, nI_clamp, nI_sub', nI_mul, vpb_n, eq_self, implies_true, grd_t, grd_i, if_pos, if_neg, bI_k, bV_k, bx0, bx1, mh0, mh1, rd_s, rd_o, rd_j, rd_2k, rdL_1k, ↓reduceIte, Bool.false_eq_true, Bool.true_eq_false, Nat.add_eq, Nat.zero_add, Nat.add_zero, not_true_eq_false, not_false_eq_true]
      exact xc i (by omega)
  · simp (disch := omega) only [k0, k1, k2, k3, k4, k5, k6, k7, k8, k9, k10, k12, k20, k30, k31, k40, k99, k160, ite_self, nI_add, nI_leI, nI_ltI, nI_eq, nI_clamp, nI_sub', nI_mul, vpb_n, eq_self, implies_true, grd_t, grd_i, if_pos, if_neg, bI_k, bV_k, bx0, bx1, mh0, mh1, rd_s, rd_o, rd_j, rd_2k, rdL_1k, ↓reduceIte, Bool.false_eq_true, Bool.true_eq_false, Nat.add_eq, Nat.zero_add, Nat.add_zero, not_true_eq_false, not_false_eq_true]
  · exact ((((((((CF.rfl w).set (by omega)).set (by omega)).set (by omega)).set (by omega)).set (by omega)).set (by omega)).set (by omega))
theorem clr {x : Int32} {n : Nat} (hn : n < 32) (h : bt x n = false) : x &&& ((nI 1 <<< (nI n &&& nI 31)) ^^^ (-nI 1)) = x := by
  apply bt_ext
  intro i hi
  have e : bt (nI 1 <<< (nI n &&& nI 31)) i = decide (i = n) := bt_sh hn hi
  have e2 : bt ((nI 1 <<< (nI n &&& nI 31)) ^^^ (-nI 1)) i = !bt (nI 1 <<< (nI n &&& nI 31)) i := bt_neg hi
  rw [bt_and, e2, e]
  by_cases q : i = n
  · subst q
    simp [h]
  · simp [q]
theorem M_newMan {w : MW} {n L : Nat} {K A F : Nat → Nat} {M S B H : Nat → Int32} (rm : RM w n L K A F M S) (mb : MB w n B H) (om : OKM n M) (hn : n < 8) (k a f : Nat) :
    EI (f_M_newMan w (nI k) (nI a) (nI f)) (fun v w' => v = nI n ∧ RM w' (n + 1) L (upf K n k) (upf A n a) (upf F n f) (upf M n (nI 0)) S ∧ MB w' (n + 1) (upf B n (-nI 1)) (upf H n (nI 0)) ∧ w'.1 62 12 = w.1 62 12 ∧ w'.1 62 23 = w.1 62 23 ∧ w'.1 62 24 = w.1 62 24 ∧ GM w w' ∧ w'.1 76 = w.1 76) := by
  obtain ⟨h1, h2, h3, h4⟩ := rm
  unfold f_M_newMan
  simp (disch := omega) only [k0, k1, k2, k3, k4, k5, k6, k7, k8, k9, k10, k12, k20, k30, k31, k40, k99, k160, ite_self, nI_add, nI_leI, nI_ltI, nI_eq, nI_clamp, nI_sub', nI_mul, vpb_n, eq_self, implies_true, grd_t, grd_i, if_pos, if_neg, bI_k, bV_k, bx0, bx1, mh0, mh1, rd_s, rd_o, rd_j, rd_2k, rdL_1k, ↓reduceIte, Bool.false_eq_true, Bool.true_eq_false, Nat.add_eq, Nat.zero_add, Nat.add_zero, not_true_eq_false, not_false_eq_true, h1]
  generalize hw0 : setI (setI (setI (setI (setI (setI w 66 n (nI k)) 67 n (nI a)) 68 n (nI f)) 69 n (-nI 1)) 70 n (nI 0)) 71 n (nI 0) = w0
  have g0 : GM w w0 := by
    subst hw0
    exact ((((((GM.rfl w).set (by omega)).set (by omega)).set (by omega)).set (by omega)).set (by omega)).set (by omega)
  have e62 : ∀ j, w0.1 62 j = w.1 62 j := by
    subst hw0
    intro j
    simp (disch := omega) only [k0, k1, k2, k3, k4, k5, k6, k7, k8, k9, k10, k12, k20, k30, k31, k40, k99, k160, ite_self, nI_add, nI_leI, nI_ltI, nI_eq, nI_clamp, nI_sub', nI_mul, vpb_n, eq_self, implies_true, grd_t, grd_i, if_pos, if_neg, bI_k, bV_k, bx0, bx1, mh0, mh1, rd_s, rd_o, rd_j, rd_2k, rdL_1k, ↓reduceIte, Bool.false_eq_true, Bool.true_eq_false, Nat.add_eq, Nat.zero_add, Nat.add_zero, not_true_eq_false, not_false_eq_true]
  have e76 : w0.1 76 = w.1 76 := by
    subst hw0
    simp (disch := omega) only [k0, k1, k2, k3, k4, k5, k6, k7, k8, k9, k10, k12, k20, k30, k31, k40, k99, k160, ite_self, nI_add, nI_leI, nI_ltI, nI_eq, nI_clamp, nI_sub', nI_mul, vpb_n, eq_self, implies_true, grd_t, grd_i, if_pos, if_neg, bI_k, bV_k, bx0, bx1, mh0, mh1, rd_s, rd_o, rd_j, rd_2k, rdL_1k, ↓reduceIte, Bool.false_eq_true, Bool.true_eq_false, Nat.add_eq, Nat.zero_add, Nat.add_zero, not_true_eq_false, not_false_eq_true]
  have c71 : ∀ m, m < n → w0.1 71 m = M m := by
    subst hw0
    intro m hm
    simp (disch := omega) only [k0, k1, k2, k3, k4, k5, k6, k7, k8, k9, k10, k12, k20, k30, k31, k40, k99, k160, ite_self, nI_add, nI_leI, nI_ltI, nI_eq, nI_clamp, nI_sub', nI_mul, vpb_n, eq_self, implies_true, grd_t, grd_i, if_pos, if_neg, bI_k, bV_k, bx0, bx1, mh0, mh1, rd_s, rd_o, rd_j, rd_2k, rdL_1k, ↓reduceIte, Bool.false_eq_true, Bool.true_eq_false, Nat.add_eq, Nat.zero_add, Nat.add_zero, not_true_eq_false, not_false_eq_true]
    exact (h3 m hm).2.2.2
  have key : ∀ m, m < n + 1 → (w0.1 66 m = nI (upf K n k m) ∧ w0.1 67 m = nI (upf A n a m) ∧ w0.1 68 m = nI (upf F n f m) ∧ w0.1 71 m = upf M n (nI 0) m) ∧ w0.1 69 m = upf B n (-nI 1) m ∧ w0.1 70 m = upf H n (nI 0) m := by
    subst hw0
    intro m hm
    by_cases e : m = n
    · subst e
      rw [upf_s, upf_s, upf_s, upf_s, upf_s, upf_s]
      simp (disch := omega) only [k0, k1, k2, k3, k4, k5, k6, k7, k8, k9, k10, k12, k20, k30, k31, k40, k99, k160, ite_self, nI_add, nI_leI, nI_ltI, nI_eq, nI_clamp, nI_sub', nI_mul, vpb_n, eq_self, implies_true, grd_t, grd_i, if_pos, if_neg, bI_k, bV_k, bx0, bx1, mh0, mh1, rd_s, rd_o, rd_j, rd_2k, rdL_1k, ↓reduceIte, Bool.false_eq_true, Bool.true_eq_false, Nat.add_eq, Nat.zero_add, Nat.add_zero, not_true_eq_false, not_false_eq_true]
      exact ⟨⟨trivial, trivial, trivial, trivial⟩, trivial, trivial⟩
    · rw [upf_o e, upf_o e, upf_o e, upf_o e, upf_o e, upf_o e]
      simp (disch := omega) only [k0, k1, k2, k3, k4, k5, k6, k7, k8, k9, k10, k12, k20, k30, k31, k40, k99, k160, ite_self, nI_add, nI_leI, nI_ltI, nI_eq, nI_clamp, nI_sub', nI_mul, vpb_n, eq_self, implies_true, grd_t, grd_i, if_pos, if_neg, bI_k, bV_k, bx0, bx1, mh0, mh1, rd_s, rd_o, rd_j, rd_2k, rdL_1k, ↓reduceIte, Bool.false_eq_true, Bool.true_eq_false, Nat.add_eq, Nat.zero_add, Nat.add_zero, not_true_eq_false, not_false_eq_true]
      exact ⟨h3 m (by omega), mb m (by omega)⟩
  have c72 : w0.1 72 = w.1 72 := by
    subst hw0
    simp (disch := omega) only [k0, k1, k2, k3, k4, k5, k6, k7, k8, k9, k10, k12, k20, k30, k31, k40, k99, k160, ite_self, nI_add, nI_leI, nI_ltI, nI_eq, nI_clamp, nI_sub', nI_mul, vpb_n, eq_self, implies_true, grd_t, grd_i, if_pos, if_neg, bI_k, bV_k, bx0, bx1, mh0, mh1, rd_s, rd_o, rd_j, rd_2k, rdL_1k, ↓reduceIte, Bool.false_eq_true, Bool.true_eq_false, Nat.add_eq, Nat.zero_add, Nat.add_zero, not_true_eq_false, not_false_eq_true]
  clear hw0
  refine lp (σ := MW) (F := fun m w' i => f_M_newMan_63 m w' (nI i)) (fun w' i => (∀ a j, w'.1 a j = w0.1 a j) ∧ w'.2 = w0.2) n 0 w0 ⟨fun _ _ => rfl, rfl⟩ (by omega) (by omega) ?_ ?_
  · intro m w' hi
    obtain ⟨i1, i2⟩ := hi
    have e1 : w'.1 62 3 = nI n := (i1 62 3).trans ((e62 3).trans h1)
    show Ev (f_M_newMan_63 (m + 1) w' (nI n)) _
    rw [f_M_newMan_63]
    simp (disch := omega) only [k0, k1, k2, k3, k4, k5, k6, k7, k8, k9, k10, k12, k20, k30, k31, k40, k99, k160, ite_self, nI_add, nI_leI, nI_ltI, nI_eq, nI_clamp, nI_sub', nI_mul, vpb_n, eq_self, implies_true, grd_t, grd_i, if_pos, if_neg, bI_k, bV_k, bx0, bx1, mh0, mh1, rd_s, rd_o, rd_j, rd_2k, rdL_1k, ↓reduceIte, Bool.false_eq_true, Bool.true_eq_false, Nat.add_eq, Nat.zero_add, Nat.add_zero, not_true_eq_false, not_false_eq_true, e1]
    have f1 : GM w w' := ⟨fun a j p q r => (i1 a j).trans (g0.1 a j p q r), fun a q => by funext j; rw [i1 a j, g0.2.1 a q], i2.trans g0.2.2⟩
    refine Ev.i ⟨rfl, ⟨by rw [rd_s], ?_, fun i hi => ?_, fun p hp => ?_⟩, fun i hi => ?_, ?_, ?_, ?_, f1.set (by omega), ?_⟩
    · rw [rd_j (by omega), i1, e62]
      exact h2
    · rw [rd_o (by omega), rd_o (by omega), rd_o (by omega), rd_o (by omega), i1, i1, i1, i1]
      exact (key i hi).1
    · rw [rd_o (by omega), i1, c72]
      exact h4 p hp
    · rw [rd_o (by omega), rd_o (by omega), i1, i1]
      exact (key i hi).2
    · rw [rd_j (by omega), i1, e62]
    · rw [rd_j (by omega), i1, e62]
    · rw [rd_j (by omega), i1, e62]
    · rw [rd_o (by omega)]
      funext j
      rw [i1, e76]
  · intro m w' i _ hi hinv kk
    obtain ⟨i1, i2⟩ := hinv
    have e1 : w'.1 62 3 = nI n := (i1 62 3).trans ((e62 3).trans h1)
    have e2 : w'.1 71 i = M i := (i1 71 i).trans (c71 i hi)
    have hb : bt (M i) n = false := Bool.eq_false_iff.mpr fun q => by
      have := (om i hi n q).1
      omega
    show Ev (f_M_newMan_63 (m + 1) w' (nI i)) _
    rw [f_M_newMan_63]
    simp (disch := omega) only [k0, k1, k2, k3, k4, k5, k6, k7, k8, k9, k10, k12, k20, k30, k31, k40, k99, k160, ite_self, nI_add, nI_leI, nI_ltI, nI_eq, nI_clamp, nI_sub', nI_mul, vpb_n, eq_self, implies_true, grd_t, grd_i, if_pos, if_neg, bI_k, bV_k, bx0, bx1, mh0, mh1, rd_s, rd_o, rd_j, rd_2k, rdL_1k, ↓reduceIte, Bool.false_eq_true, Bool.true_eq_false, Nat.add_eq, Nat.zero_add, Nat.add_zero, not_true_eq_false, not_false_eq_true, e1, e2]
    rw [clr (by omega) hb]
    refine kk _ ⟨fun a j => ?_, by rw [rd_2]; exact i2⟩
    by_cases q : a = 71 ∧ j = i
    · obtain ⟨rfl, rfl⟩ := q
      rw [rd_s, c71 j hi]
    · rw [rd_ite, if_neg q]
      exact i1 a j
theorem OK.up {n L : Nat} {K A F : Nat → Nat} (ok : OK n L K A F) (hn : n < 8) {k a f : Nat} (hk : k < 7) (ha : a < 10) (hf : f < 3) : OK (n + 1) L (upf K n k) (upf A n a) (upf F n f) := by
  refine ⟨hn, ok.2.1, fun i hi => ?_⟩
  by_cases e : i = n
  · subst e
    rw [upf_s, upf_s, upf_s]
    exact ⟨hk, ha, hf⟩
  · rw [upf_o e, upf_o e, upf_o e]
    exact ok.2.2 i (by omega)
theorem OKM.up {n : Nat} {M : Nat → Int32} (om : OKM n M) : OKM (n + 1) (upf M n (nI 0)) := by
  intro i hi j hb
  by_cases e : i = n
  · subst e
    rw [upf_s, show nI 0 = 0 from rfl, bt_0] at hb
    cases hb
  · rw [upf_o e] at hb
    obtain ⟨a1, a2, a3⟩ := om i (by omega) j hb
    exact ⟨by omega, a2, by rw [upf_o (by omega)]; exact a3⟩
theorem sim_man (x1 x2 x3 : Int32) : SIM (fun w => f_X_man w x1 x2 x3) (fun w => f_M_man w x1 x2 x3) := by
  intro sc N w h
  have h0 := h
  obtain ⟨⟨n, L, K, A, F, M, S, g1, g2⟩, g3, g4, g5, g6⟩ := h0
  have hn := g1.2.2.1.1
  have ok := g1.2.2.1
  show EI (f_X_man w x1 x2 x3) _
  unfold f_X_man
  rcases tri x1 7 (by omega) with hb | ⟨k, hk, rfl⟩
  · rw [isKd_b hb]
    simp (disch := omega) only [k0, k1, k2, k3, k4, k5, k6, k7, k8, k9, k10, k12, k20, k30, k31, k40, k99, k160, ite_self, nI_add, nI_leI, nI_ltI, nI_eq, nI_clamp, nI_sub', nI_mul, vpb_n, eq_self, implies_true, grd_t, grd_i, if_pos, if_neg, bI_k, bV_k, bx0, bx1, mh0, mh1, rd_s, rd_o, rd_j, rd_2k, rdL_1k, ↓reduceIte, Bool.false_eq_true, Bool.true_eq_false, Nat.add_eq, Nat.zero_add, Nat.add_zero, not_true_eq_false, not_false_eq_true]
    refine Ev.i ?_
    show EI (f_M_man (u_X_refuse w (-nI 1)) x1 x2 x3) _
    unfold f_M_man
    rw [w6_b hb]
    simp (disch := omega) only [k0, k1, k2, k3, k4, k5, k6, k7, k8, k9, k10, k12, k20, k30, k31, k40, k99, k160, ite_self, nI_add, nI_leI, nI_ltI, nI_eq, nI_clamp, nI_sub', nI_mul, vpb_n, eq_self, implies_true, grd_t, grd_i, if_pos, if_neg, bI_k, bV_k, bx0, bx1, mh0, mh1, rd_s, rd_o, rd_j, rd_2k, rdL_1k, ↓reduceIte, Bool.false_eq_true, Bool.true_eq_false, Nat.add_eq, Nat.zero_add, Nat.add_zero, not_true_eq_false, not_false_eq_true]
    exact Ev.i ⟨rfl, inv_ref h (by omega) (by omega)⟩
  rw [isKd_g hk]
  rcases tri x2 10 (by omega) with hb | ⟨a, ha, rfl⟩
  · have r6 : EI (f_M_man (u_X_refuse w (-nI 6)) (nI k) x2 x3) (fun v' w2 => v' = -nI 6 ∧ Inv sc N w2) := by
      unfold f_M_man
      have e9 : v_M_within (u_X_refuse w (-nI 6)) x2 (0 : Int32) (9 : Int32) = nI 0 := wi_b (n := 10) (by omega) (by decide) hb
      rw [w6_g hk, e9]
      simp (disch := omega) only [k0, k1, k2, k3, k4, k5, k6, k7, k8, k9, k10, k12, k20, k30, k31, k40, k99, k160, ite_self, nI_add, nI_leI, nI_ltI, nI_eq, nI_clamp, nI_sub', nI_mul, vpb_n, eq_self, implies_true, grd_t, grd_i, if_pos, if_neg, bI_k, bV_k, bx0, bx1, mh0, mh1, rd_s, rd_o, rd_j, rd_2k, rdL_1k, ↓reduceIte, Bool.false_eq_true, Bool.true_eq_false, Nat.add_eq, Nat.zero_add, Nat.add_zero, not_true_eq_false, not_false_eq_true]
      exact Ev.i ⟨rfl, inv_ref h (by omega) (by omega)⟩
    rcases hb with q | q
    · have q' : x2 < nI 0 := q
      simp (disch := omega) only [k0, k1, k2, k3, k4, k5, k6, k7, k8, k9, k10, k12, k20, k30, k31, k40, k99, k160, ite_self, nI_add, nI_leI, nI_ltI, nI_eq, nI_clamp, nI_sub', nI_mul, vpb_n, eq_self, implies_true, grd_t, grd_i, if_pos, if_neg, bI_k, bV_k, bx0, bx1, mh0, mh1, rd_s, rd_o, rd_j, rd_2k, rdL_1k, ↓reduceIte, Bool.false_eq_true, Bool.true_eq_false, Nat.add_eq, Nat.zero_add, Nat.add_zero, not_true_eq_false, not_false_eq_true, q']
      exact Ev.i r6
    · by_cases q0 : x2 < nI 0
      · simp (disch := omega) only [k0, k1, k2, k3, k4, k5, k6, k7, k8, k9, k10, k12, k20, k30, k31, k40, k99, k160, ite_self, nI_add, nI_leI, nI_ltI, nI_eq, nI_clamp, nI_sub', nI_mul, vpb_n, eq_self, implies_true, grd_t, grd_i, if_pos, if_neg, bI_k, bV_k, bx0, bx1, mh0, mh1, rd_s, rd_o, rd_j, rd_2k, rdL_1k, ↓reduceIte, Bool.false_eq_true, Bool.true_eq_false, Nat.add_eq, Nat.zero_add, Nat.add_zero, not_true_eq_false, not_false_eq_true, q0]
        exact Ev.i r6
      · simp (disch := omega) only [k0, k1, k2, k3, k4, k5, k6, k7, k8, k9, k10, k12, k20, k30, k31, k40, k99, k160, ite_self, nI_add, nI_leI, nI_ltI, nI_eq, nI_clamp, nI_sub', nI_mul, vpb_n, eq_self, implies_true, grd_t, grd_i, if_pos, if_neg, bI_k, bV_k, bx0, bx1, mh0, mh1, rd_s, rd_o, rd_j, rd_2k, rdL_1k, ↓reduceIte, Bool.false_eq_true, Bool.true_eq_false, Nat.add_eq, Nat.zero_add, Nat.add_zero, not_true_eq_false, not_false_eq_true, q0, q]
        exact Ev.i r6
  have a0 : ¬ nI a < nI 0 := nI_pos (by omega)
  rcases tri x3 3 (by omega) with hb | ⟨f, hf, rfl⟩
  · have r6 : EI (f_M_man (u_X_refuse w (-nI 6)) (nI k) (nI a) x3) (fun v' w2 => v' = -nI 6 ∧ Inv sc N w2) := by
      unfold f_M_man
      have e9 : v_M_within (u_X_refuse w (-nI 6)) (nI a) (0 : Int32) (9 : Int32) = nI 1 := wi_g (n := 10) (by omega) (by decide) ha
      have e2 : v_M_within (u_X_refuse w (-nI 6)) x3 (0 : Int32) (2 : Int32) = nI 0 := wi_b (n := 3) (by omega) (by decide) hb
      rw [w6_g hk, e9, e2]
      simp (disch := omega) only [k0, k1, k2, k3, k4, k5, k6, k7, k8, k9, k10, k12, k20, k30, k31, k40, k99, k160, ite_self, nI_add, nI_leI, nI_ltI, nI_eq, nI_clamp, nI_sub', nI_mul, vpb_n, eq_self, implies_true, grd_t, grd_i, if_pos, if_neg, bI_k, bV_k, bx0, bx1, mh0, mh1, rd_s, rd_o, rd_j, rd_2k, rdL_1k, ↓reduceIte, Bool.false_eq_true, Bool.true_eq_false, Nat.add_eq, Nat.zero_add, Nat.add_zero, not_true_eq_false, not_false_eq_true]
      exact Ev.i ⟨rfl, inv_ref h (by omega) (by omega)⟩
    rcases hb with q | q
    · have q' : x3 < nI 0 := q
      simp (disch := omega) only [k0, k1, k2, k3, k4, k5, k6, k7, k8, k9, k10, k12, k20, k30, k31, k40, k99, k160, ite_self, nI_add, nI_leI, nI_ltI, nI_eq, nI_clamp, nI_sub', nI_mul, vpb_n, eq_self, implies_true, grd_t, grd_i, if_pos, if_neg, bI_k, bV_k, bx0, bx1, mh0, mh1, rd_s, rd_o, rd_j, rd_2k, rdL_1k, ↓reduceIte, Bool.false_eq_true, Bool.true_eq_false, Nat.add_eq, Nat.zero_add, Nat.add_zero, not_true_eq_false, not_false_eq_true, q']
      exact Ev.i r6
    · have q3 : ¬ x3 < nI 3 := Int32.not_lt.mpr q
      by_cases q0 : x3 < nI 0
      · simp (disch := omega) only [k0, k1, k2, k3, k4, k5, k6, k7, k8, k9, k10, k12, k20, k30, k31, k40, k99, k160, ite_self, nI_add, nI_leI, nI_ltI, nI_eq, nI_clamp, nI_sub', nI_mul, vpb_n, eq_self, implies_true, grd_t, grd_i, if_pos, if_neg, bI_k, bV_k, bx0, bx1, mh0, mh1, rd_s, rd_o, rd_j, rd_2k, rdL_1k, ↓reduceIte, Bool.false_eq_true, Bool.true_eq_false, Nat.add_eq, Nat.zero_add, Nat.add_zero, not_true_eq_false, not_false_eq_true, q0]
        exact Ev.i r6
      · simp (disch := omega) only [k0, k1, k2, k3, k4, k5, k6, k7, k8, k9, k10, k12, k20, k30, k31, k40, k99, k160, ite_self, nI_add, nI_leI, nI_ltI, nI_eq, nI_clamp, nI_sub', nI_mul, vpb_n, eq_self, implies_true, grd_t, grd_i, if_pos, if_neg, bI_k, bV_k, bx0, bx1, mh0, mh1, rd_s, rd_o, rd_j, rd_2k, rdL_1k, ↓reduceIte, Bool.false_eq_true, Bool.true_eq_false, Nat.add_eq, Nat.zero_add, Nat.add_zero, not_true_eq_false, not_false_eq_true, q0, q3]
        exact Ev.i r6
  have e1 := g1.1.1
  have e9 : ∀ w', v_M_within w' (nI a) (0 : Int32) (9 : Int32) = nI 1 := fun w' => wi_g (n := 10) (by omega) (by decide) ha
  have e2 : ∀ w', v_M_within w' (nI f) (0 : Int32) (2 : Int32) = nI 1 := fun w' => wi_g (n := 3) (by omega) (by decide) hf
  by_cases h8 : n = 8
  · subst h8
    simp (disch := omega) only [k0, k1, k2, k3, k4, k5, k6, k7, k8, k9, k10, k12, k20, k30, k31, k40, k99, k160, ite_self, nI_add, nI_leI, nI_ltI, nI_eq, nI_clamp, nI_sub', nI_mul, vpb_n, eq_self, implies_true, grd_t, grd_i, if_pos, if_neg, bI_k, bV_k, bx0, bx1, mh0, mh1, rd_s, rd_o, rd_j, rd_2k, rdL_1k, ↓reduceIte, Bool.false_eq_true, Bool.true_eq_false, Nat.add_eq, Nat.zero_add, Nat.add_zero, not_true_eq_false, not_false_eq_true, e1]
    refine Ev.i ?_
    show EI (f_M_man (u_X_refuse w (-nI 7)) (nI k) (nI a) (nI f)) _
    unfold f_M_man
    have e3 : (u_X_refuse w (-nI 7)).1 62 3 = nI 8 := by rw [xr_o (by omega)]; exact g1.2.1.1
    rw [w6_g hk, e9, e2]
    simp (disch := omega) only [k0, k1, k2, k3, k4, k5, k6, k7, k8, k9, k10, k12, k20, k30, k31, k40, k99, k160, ite_self, nI_add, nI_leI, nI_ltI, nI_eq, nI_clamp, nI_sub', nI_mul, vpb_n, eq_self, implies_true, grd_t, grd_i, if_pos, if_neg, bI_k, bV_k, bx0, bx1, mh0, mh1, rd_s, rd_o, rd_j, rd_2k, rdL_1k, ↓reduceIte, Bool.false_eq_true, Bool.true_eq_false, Nat.add_eq, Nat.zero_add, Nat.add_zero, not_true_eq_false, not_false_eq_true, e3]
    exact Ev.i ⟨rfl, inv_ref h (by omega) (by omega)⟩
  have hn8 : n < 8 := by omega
  obtain ⟨rx1, xc1, s1, f1⟩ := X_addMan g1.1 g1.2.2.2.2.1 hn8 k a f
  have c1 := rx1.1
  simp (disch := omega) only [k0, k1, k2, k3, k4, k5, k6, k7, k8, k9, k10, k12, k20, k30, k31, k40, k99, k160, ite_self, nI_add, nI_leI, nI_ltI, nI_eq, nI_clamp, nI_sub', nI_mul, vpb_n, eq_self, implies_true, grd_t, grd_i, if_pos, if_neg, bI_k, bV_k, bx0, bx1, mh0, mh1, rd_s, rd_o, rd_j, rd_2k, rdL_1k, ↓reduceIte, Bool.false_eq_true, Bool.true_eq_false, Nat.add_eq, Nat.zero_add, Nat.add_zero, not_true_eq_false, not_false_eq_true, e1, c1]
  refine Ev.i ?_
  have gx := f1.gx
  have rm1 := g1.2.1.gx gx
  have mb1 : MB (u_Ct_addMan w 1 (nI k) (nI a) (nI f)) n (w.1 69) (w.1 70) := fun i hi => by rw [gx.2.1 69 (by omega), gx.2.1 70 (by omega)]; exact ⟨rfl, rfl⟩
  have c3 : (u_Ct_addMan w 1 (nI k) (nI a) (nI f)).1 62 3 = nI n := rm1.1
  show EI (f_M_man (u_Ct_addMan w 1 (nI k) (nI a) (nI f)) (nI k) (nI a) (nI f)) _
  unfold f_M_man
  rw [w6_g hk, e9, e2]
  simp (disch := omega) only [k0, k1, k2, k3, k4, k5, k6, k7, k8, k9, k10, k12, k20, k30, k31, k40, k99, k160, ite_self, nI_add, nI_leI, nI_ltI, nI_eq, nI_clamp, nI_sub', nI_mul, vpb_n, eq_self, implies_true, grd_t, grd_i, if_pos, if_neg, bI_k, bV_k, bx0, bx1, mh0, mh1, rd_s, rd_o, rd_j, rd_2k, rdL_1k, ↓reduceIte, Bool.false_eq_true, Bool.true_eq_false, Nat.add_eq, Nat.zero_add, Nat.add_zero, not_true_eq_false, not_false_eq_true, c3]
  refine Ev.bI (M_newMan rm1 mb1 g1.2.2.2.1 hn8 k a f) (fun v w2 h2 => ?_)
  obtain ⟨rfl, rm2, mb2, s2, _, _, gm, _⟩ := h2
  refine Ev.i ⟨by rw [show n + 1 - 1 = n by omega], inv_xm h gx gm rx1 xc1 rm2 mb2 (ok.up hn8 hk ha hf) g1.2.2.2.1.up (g6.oks g1.2.1 ok.2.1) ?_ (fun n' h1 h2 => ?_)⟩
  · rw [s1, s2, gx.2.1 62 (by omega)]
    exact g1.2.2.2.2.2
  · have := n_le g1.2.1.1 hn n' h1 h2
    omega
/-! meetings -/
def tieV (M : Nat → Int32) (i j l : Nat) : Int32 := if l = j then M j ||| (nI 1 <<< (nI i &&& nI 31)) else if l = i then M i ||| (nI 1 <<< (nI j &&& nI 31)) else M l
theorem tie_j {M : Nat → Int32} {i j : Nat} : tieV M i j j = M j ||| (nI 1 <<< (nI i &&& nI 31)) := if_pos rfl
theorem tie_i {M : Nat → Int32} {i j : Nat} (h : i ≠ j) : tieV M i j i = M i ||| (nI 1 <<< (nI j &&& nI 31)) := by
  unfold tieV
  rw [if_neg h, if_pos rfl]
theorem tie_o {M : Nat → Int32} {i j l : Nat} (h : l ≠ i) (h2 : l ≠ j) : tieV M i j l = M l := by
  unfold tieV
  rw [if_neg h2, if_neg h]
def linkV (M : Nat → Int32) (i j b : Nat) : Nat → Int32 := if b = 0 then cutV M i j else tieV M i j
theorem bt_shn {j i : Nat} (hj : j < 32) (hi : i < 32) : bt (nI 1 <<< (nI j &&& nI 31)) i = decide (i = j) := bt_sh hj hi
theorem bt_shc {j i : Nat} (hj : j < 32) (hi : i < 32) : bt ((nI 1 <<< (nI j &&& nI 31)) ^^^ (-nI 1)) i = !decide (i = j) := by
  have e2 : bt ((nI 1 <<< (nI j &&& nI 31)) ^^^ (-nI 1)) i = !bt (nI 1 <<< (nI j &&& nI 31)) i := bt_neg hi
  rw [e2, bt_shn hj hi]
theorem cut_bit {M : Nat → Int32} {i j l t : Nat} (hi : i < 8) (hj : j < 8) (hij : i ≠ j) (ht : t < 32) : bt (cutV M i j l) t = true ↔ bt (M l) t = true ∧ ¬ (l = i ∧ t = j) ∧ ¬ (l = j ∧ t = i) := by
  by_cases q1 : l = j
  · subst q1
    rw [cut_j, bt_and, bt_shc (by omega) ht]
    by_cases q : t = i
    · simp [q, hij]
    · simp [q]
      intro _ q2
      exact absurd q2.symm hij
  · by_cases q2 : l = i
    · subst q2
      rw [cut_i q1, bt_and, bt_shc (by omega) ht]
      by_cases q : t = j
      · simp [q]
      · simp [q, q1]
    · rw [cut_o q2 q1]
      simp [q1, q2]
theorem tie_bit {M : Nat → Int32} {i j l t : Nat} (hi : i < 8) (hj : j < 8) (hij : i ≠ j) (ht : t < 32) : bt (tieV M i j l) t = true ↔ bt (M l) t = true ∨ (l = i ∧ t = j) ∨ (l = j ∧ t = i) := by
  by_cases q1 : l = j
  · subst q1
    rw [tie_j, bt_or, bt_shn (by omega) ht]
    have q3 : ¬ l = i := fun e => hij e.symm
    simp [q3]
  · by_cases q2 : l = i
    · subst q2
      rw [tie_i q1, bt_or, bt_shn (by omega) ht]
      simp [q1]
    · rw [tie_o q2 q1]
      simp [q1, q2]
theorem OKM.link {n i j b : Nat} {M : Nat → Int32} (om : OKM n M) (hn : n ≤ 8) (hi : i < n) (hj : j < n) (hij : i ≠ j) : OKM n (linkV M i j b) := by
  intro l hl t hb
  have ht : t < 32 := Decidable.byContradiction fun q => by
    rw [bt_big (by omega)] at hb
    cases hb
  unfold linkV at hb ⊢
  by_cases q : b = 0
  · rw [if_pos q] at hb ⊢
    rw [cut_bit (by omega) (by omega) hij ht] at hb
    obtain ⟨b1, b2, b3⟩ := hb
    obtain ⟨a1, a2, a3⟩ := om l hl t b1
    refine ⟨a1, a2, ?_⟩
    rw [cut_bit (by omega) (by omega) hij (by omega)]
    exact ⟨a3, fun e => b3 ⟨e.2, e.1⟩, fun e => b2 ⟨e.2, e.1⟩⟩
  · rw [if_neg q] at hb ⊢
    rw [tie_bit (by omega) (by omega) hij ht] at hb
    rw [tie_bit (by omega) (by omega) hij (by omega)]
    rcases hb with b1 | ⟨rfl, rfl⟩ | ⟨rfl, rfl⟩
    · obtain ⟨a1, a2, a3⟩ := om l hl t b1
      exact ⟨a1, a2, .inl a3⟩
    · exact ⟨hj, fun e => hij e.symm, .inr (.inr ⟨rfl, rfl⟩)⟩
    · exact ⟨hi, hij, .inr (.inl ⟨rfl, rfl⟩)⟩
theorem RX.s5 {c : Nat} {w : MW} {n L i : Nat} {K A F : Nat → Nat} {M M' S : Nat → Int32} {v : Int32} (rx : RX c w n L K A F M S) (e : ∀ j, j < n → j ≠ i → M' j = M j) (e2 : M' i = v) (hi : i < 8) : RX c (setI w (c + 2 + i) 5 v) n L K A F M' S := by
  obtain ⟨h1, h2, h3, h4⟩ := rx
  refine ⟨by rw [rd_o (by omega)]; exact h1, by rw [rd_o (by omega)]; exact h2, fun j hj => ?_, fun p hp => by rw [rd_o (by omega)]; exact h4 p hp⟩
  obtain ⟨a1, a2, a3, a4⟩ := h3 j hj
  by_cases q : j = i
  · subst q
    rw [rd_j (by omega), rd_j (by omega), rd_j (by omega), rd_s, e2]
    exact ⟨a1, a2, a3, rfl⟩
  · rw [rd_o (by omega), e j hj q]
    exact ⟨a1, a2, a3, a4⟩
theorem X_link {c : Nat} {w : MW} {n L i j b : Nat} {K A F : Nat → Nat} {M S B H : Nat → Int32} (rx : RX c w n L K A F M S) (xc : XC c w n B H) (hn : n ≤ 8) (hi : i < n) (hj : j < n) (hij : i ≠ j) (hb : b < 2) :
    RX c (u_Ct_link w c (nI i) (nI j) (nI b)) n L K A F (linkV M i j b) S ∧ XC c (u_Ct_link w c (nI i) (nI j) (nI b)) n B H ∧ (u_Ct_link w c (nI i) (nI j) (nI b)).1 c 4 = w.1 c 4 ∧ CF c w (u_Ct_link w c (nI i) (nI j) (nI b)) := by
  have ei := (rx.2.2.1 i hi).2.2.2
  have ej := (rx.2.2.1 j hj).2.2.2
  unfold u_Ct_link linkV
  rw [man_g rx.1 hi (by omega), man_g rx.1 hj (by omega)]
  have fin : ∀ v1 v2, XC c (setI (setI w (c + 2 + i) 5 v1) (c + 2 + j) 5 v2) n B H ∧ (setI (setI w (c + 2 + i) 5 v1) (c + 2 + j) 5 v2).1 c 4 = w.1 c 4 ∧ CF c w (setI (setI w (c + 2 + i) 5 v1) (c + 2 + j) 5 v2) := by
    intro v1 v2
    refine ⟨fun l hl => ?_, by rw [rd_o (by omega), rd_o (by omega)], ((CF.rfl w).set (by omega)).set (by omega)⟩
    rw [rd_ite, rd_ite, rd_ite, rd_ite, if_neg (by omega), if_neg (by omega), if_neg (by omega), if_neg (by omega)]
    exact xc l hl
  rcases (show b = 0 ∨ b = 1 by omega) with rfl | rfl
  · rw [if_pos rfl]
    simp (disch := omega) only [k0, k1, k2, k3, k4, k5, k6, k7, k8, k9, k10, k12, k20, k30, k31, k40, k99, k160, ite_self, nI_add, nI_leI, nI_ltI, nI_eq, nI_clamp, nI_sub', nI_mul, vpb_n, eq_self, implies_true, grd_t, grd_i, if_pos, if_neg, bI_k, bV_k, bx0, bx1, mh0, mh1, rd_s, rd_o, rd_j, rd_2k, rdL_1k, ↓reduceIte, Bool.false_eq_true, Bool.true_eq_false, Nat.add_eq, Nat.zero_add, Nat.add_zero, not_true_eq_false, not_false_eq_true, ei, ej]
    refine ⟨RX.s5 (M := fun l => if l = i then M i &&& ((nI 1 <<< (nI j &&& nI 31)) ^^^ (-nI 1)) else M l) (rx.s5 (fun l hl q => if_neg q) (if_pos rfl) (by omega)) (fun l hl q => ?_) cut_j (by omega), (fin _ _).1, trivial, (fin _ _).2.2⟩
    by_cases q2 : l = i
    · subst q2
      rw [cut_i q]
      exact (if_pos rfl).symm
    · rw [cut_o q2 q]
      exact (if_neg q2).symm
  · rw [if_neg (show ¬ (1 : Nat) = 0 by decide)]
    simp (disch := omega) only [k0, k1, k2, k3, k4, k5, k6, k7, k8, k9, k10, k12, k20, k30, k31, k40, k99, k160, ite_self, nI_add, nI_leI, nI_ltI, nI_eq, nI_clamp, nI_sub', nI_mul, vpb_n, eq_self, implies_true, grd_t, grd_i, if_pos, if_neg, bI_k, bV_k, bx0, bx1, mh0, mh1, rd_s, rd_o, rd_j, rd_2k, rdL_1k, ↓reduceIte, Bool.false_eq_true, Bool.true_eq_false, Nat.add_eq, Nat.zero_add, Nat.add_zero, not_true_eq_false, not_false_eq_true, ei, ej]
    refine ⟨RX.s5 (M := fun l => if l = i then M i ||| (nI 1 <<< (nI j &&& nI 31)) else M l) (rx.s5 (fun l hl q => if_neg q) (if_pos rfl) (by omega)) (fun l hl q => ?_) tie_j (by omega), (fin _ _).1, trivial, (fin _ _).2.2⟩
    by_cases q2 : l = i
    · subst q2
      rw [tie_i q]
      exact (if_pos rfl).symm
    · rw [tie_o q2 q]
      exact (if_neg q2).symm
theorem or_clr {x : Int32} {j : Nat} (hj : j < 32) : (x &&& ((nI 1 <<< (nI j &&& nI 31)) ^^^ (-nI 1))) ||| (nI 1 <<< (nI j &&& nI 31)) = x ||| (nI 1 <<< (nI j &&& nI 31)) := by
  apply bt_ext
  intro i hi
  rw [bt_or, bt_or, bt_and, bt_shc hj hi, bt_shn hj hi]
  by_cases q : i = j
  · simp [q]
  · simp [q]
theorem M_link {w : MW} {n L i j b : Nat} {K A F : Nat → Nat} {M S B H : Nat → Int32} (rm : RM w n L K A F M S) (mb : MB w n B H) (hn : n ≤ 8) (hi : i < n) (hj : j < n) (hij : i ≠ j) (hb : b < 2) :
    RM (u_M_meeting w (nI i) (nI j) (nI b)) n L K A F (linkV M i j b) S ∧ MB (u_M_meeting w (nI i) (nI j) (nI b)) n B H ∧ (∀ a, a ≠ 71 → (u_M_meeting w (nI i) (nI j) (nI b)).1 a = w.1 a) ∧ GM w (u_M_meeting w (nI i) (nI j) (nI b)) := by
  have ei := (rm.2.2.1 i hi).2.2.2
  have ej := (rm.2.2.1 j hj).2.2.2
  have fin : ∀ v1 v2, MB (setI (setI w 71 i v1) 71 j v2) n B H ∧ (∀ a, a ≠ 71 → (setI (setI w 71 i v1) 71 j v2).1 a = w.1 a) ∧ GM w (setI (setI w 71 i v1) 71 j v2) := by
    intro v1 v2
    refine ⟨fun l hl => ?_, fun a q => by rw [rd_o q, rd_o q], ((GM.rfl w).set (by omega)).set (by omega)⟩
    rw [rd_o (by omega), rd_o (by omega), rd_o (by omega), rd_o (by omega)]
    exact mb l hl
  unfold linkV
  rcases (show b = 0 ∨ b = 1 by omega) with rfl | rfl
  · rw [if_pos rfl, M_meetF (by omega) (by omega) hij, ei, ej]
    refine ⟨RM.s71 (M := fun l => if l = i then M i &&& ((nI 1 <<< (nI j &&& nI 31)) ^^^ (-nI 1)) else M l) (rm.s71 (fun l hl q => if_neg q) (if_pos rfl)) (fun l hl q => ?_) cut_j, fin _ _⟩
    by_cases q2 : l = i
    · subst q2
      rw [cut_i q]
      exact (if_pos rfl).symm
    · rw [cut_o q2 q]
      exact (if_neg q2).symm
  · rw [if_neg (by omega), M_meetT (by omega) (by omega) hij, ei, ej, or_clr (by omega), or_clr (by omega)]
    refine ⟨RM.s71 (M := fun l => if l = i then M i ||| (nI 1 <<< (nI j &&& nI 31)) else M l) (rm.s71 (fun l hl q => if_neg q) (if_pos rfl)) (fun l hl q => ?_) tie_j, fin _ _⟩
    by_cases q2 : l = i
    · subst q2
      rw [tie_i q]
      exact (if_pos rfl).symm
    · rw [tie_o q2 q]
      exact (if_neg q2).symm
theorem sim_meet (x1 x2 : Int32) (b : Nat) (hb : b < 2) : SIM (fun w => f_X_meet w x1 x2 (nI b)) (fun w => f_M_meet w x1 x2 (nI b)) := by
  intro sc N w h
  have h0 := h
  obtain ⟨⟨n, L, K, A, F, M, S, g1, g2⟩, g3, g4, g5, g6⟩ := h0
  have hn := g1.2.2.1.1
  have ok := g1.2.2.1
  show EI (f_X_meet w x1 x2 (nI b)) _
  unfold f_X_meet
  rcases tri x1 n (by omega) with hq | ⟨i, hi, rfl⟩
  · rw [man_b g1.1.1 hq]
    simp (disch := omega) only [k0, k1, k2, k3, k4, k5, k6, k7, k8, k9, k10, k12, k20, k30, k31, k40, k99, k160, ite_self, nI_add, nI_leI, nI_ltI, nI_eq, nI_clamp, nI_sub', nI_mul, vpb_n, eq_self, implies_true, grd_t, grd_i, if_pos, if_neg, bI_k, bV_k, bx0, bx1, mh0, mh1, rd_s, rd_o, rd_j, rd_2k, rdL_1k, ↓reduceIte, Bool.false_eq_true, Bool.true_eq_false, Nat.add_eq, Nat.zero_add, Nat.add_zero, not_true_eq_false, not_false_eq_true]
    refine Ev.i ?_
    show EI (f_M_meet (u_X_refuse w (-nI 1)) x1 x2 (nI b)) _
    unfold f_M_meet
    rw [mman_b (n := n) (by rw [xr_o (by omega), g1.2.1.1]) (by omega) hq]
    simp (disch := omega) only [k0, k1, k2, k3, k4, k5, k6, k7, k8, k9, k10, k12, k20, k30, k31, k40, k99, k160, ite_self, nI_add, nI_leI, nI_ltI, nI_eq, nI_clamp, nI_sub', nI_mul, vpb_n, eq_self, implies_true, grd_t, grd_i, if_pos, if_neg, bI_k, bV_k, bx0, bx1, mh0, mh1, rd_s, rd_o, rd_j, rd_2k, rdL_1k, ↓reduceIte, Bool.false_eq_true, Bool.true_eq_false, Nat.add_eq, Nat.zero_add, Nat.add_zero, not_true_eq_false, not_false_eq_true]
    exact Ev.i ⟨rfl, inv_ref h (by omega) (by omega)⟩
  rw [man_g g1.1.1 hi (by omega)]
  have mi : ∀ w', w'.1 62 3 = nI n → v_M_isMan w' (nI i) = nI 1 := fun w' e => mman_g (n := n) e (by omega) hi
  have er : ∀ c, (u_X_refuse w (-nI c)).1 62 3 = nI n := fun c => by rw [xr_o (by omega), g1.2.1.1]
  rcases tri x2 n (by omega) with hq | ⟨j, hj, rfl⟩
  · rw [man_b g1.1.1 hq]
    simp (disch := omega) only [k0, k1, k2, k3, k4, k5, k6, k7, k8, k9, k10, k12, k20, k30, k31, k40, k99, k160, ite_self, nI_add, nI_leI, nI_ltI, nI_eq, nI_clamp, nI_sub', nI_mul, vpb_n, eq_self, implies_true, grd_t, grd_i, if_pos, if_neg, bI_k, bV_k, bx0, bx1, mh0, mh1, rd_s, rd_o, rd_j, rd_2k, rdL_1k, ↓reduceIte, Bool.false_eq_true, Bool.true_eq_false, Nat.add_eq, Nat.zero_add, Nat.add_zero, not_true_eq_false, not_false_eq_true]
    refine Ev.i ?_
    show EI (f_M_meet (u_X_refuse w (-nI 1)) (nI i) x2 (nI b)) _
    unfold f_M_meet
    rw [mi _ (er 1), mman_b (n := n) (er 1) (by omega) hq]
    simp (disch := omega) only [k0, k1, k2, k3, k4, k5, k6, k7, k8, k9, k10, k12, k20, k30, k31, k40, k99, k160, ite_self, nI_add, nI_leI, nI_ltI, nI_eq, nI_clamp, nI_sub', nI_mul, vpb_n, eq_self, implies_true, grd_t, grd_i, if_pos, if_neg, bI_k, bV_k, bx0, bx1, mh0, mh1, rd_s, rd_o, rd_j, rd_2k, rdL_1k, ↓reduceIte, Bool.false_eq_true, Bool.true_eq_false, Nat.add_eq, Nat.zero_add, Nat.add_zero, not_true_eq_false, not_false_eq_true]
    exact Ev.i ⟨rfl, inv_ref h (by omega) (by omega)⟩
  rw [man_g g1.1.1 hj (by omega)]
  have mj : ∀ w', w'.1 62 3 = nI n → v_M_isMan w' (nI j) = nI 1 := fun w' e => mman_g (n := n) e (by omega) hj
  by_cases hij : i = j
  · subst hij
    simp (disch := omega) only [k0, k1, k2, k3, k4, k5, k6, k7, k8, k9, k10, k12, k20, k30, k31, k40, k99, k160, ite_self, nI_add, nI_leI, nI_ltI, nI_eq, nI_clamp, nI_sub', nI_mul, vpb_n, eq_self, implies_true, grd_t, grd_i, if_pos, if_neg, bI_k, bV_k, bx0, bx1, mh0, mh1, rd_s, rd_o, rd_j, rd_2k, rdL_1k, ↓reduceIte, Bool.false_eq_true, Bool.true_eq_false, Nat.add_eq, Nat.zero_add, Nat.add_zero, not_true_eq_false, not_false_eq_true]
    refine Ev.i ?_
    show EI (f_M_meet (u_X_refuse w (-nI 6)) (nI i) (nI i) (nI b)) _
    unfold f_M_meet
    rw [mi _ (er 6)]
    simp (disch := omega) only [k0, k1, k2, k3, k4, k5, k6, k7, k8, k9, k10, k12, k20, k30, k31, k40, k99, k160, ite_self, nI_add, nI_leI, nI_ltI, nI_eq, nI_clamp, nI_sub', nI_mul, vpb_n, eq_self, implies_true, grd_t, grd_i, if_pos, if_neg, bI_k, bV_k, bx0, bx1, mh0, mh1, rd_s, rd_o, rd_j, rd_2k, rdL_1k, ↓reduceIte, Bool.false_eq_true, Bool.true_eq_false, Nat.add_eq, Nat.zero_add, Nat.add_zero, not_true_eq_false, not_false_eq_true]
    exact Ev.i ⟨rfl, inv_ref h (by omega) (by omega)⟩
  obtain ⟨rx1, xc1, s1, f1⟩ := X_link (b := b) g1.1 g1.2.2.2.2.1 hn hi hj hij hb
  have gx := f1.gx
  have rm1 := g1.2.1.gx gx
  have mb1 : MB (u_Ct_link w 1 (nI i) (nI j) (nI b)) n (w.1 69) (w.1 70) := fun i hi => by rw [gx.2.1 69 (by omega), gx.2.1 70 (by omega)]; exact ⟨rfl, rfl⟩
  obtain ⟨rm2, mb2, s2, gm⟩ := M_link (b := b) rm1 mb1 hn hi hj hij hb
  have inv2 : Inv sc N (u_M_meeting (u_Ct_link w 1 (nI i) (nI j) (nI b)) (nI i) (nI j) (nI b)) := by
    refine inv_xm h gx gm rx1 xc1 rm2 mb2 ok (g1.2.2.2.1.link hn hi hj hij) (g6.oks g1.2.1 ok.2.1) ?_ (n_le g1.2.1.1 hn)
    rw [s1, s2 62 (by omega), gx.2.1 62 (by omega)]
    exact g1.2.2.2.2.2
  rw [X_doMeet g1.1 hn hi (by omega)]
  have e71 := (rm1.2.2.1 i hi).2.2.2
  have e3 := rm1.1
  by_cases hm : bt (M i) j = true
  · rw [if_pos hm]
    simp (disch := omega) only [k0, k1, k2, k3, k4, k5, k6, k7, k8, k9, k10, k12, k20, k30, k31, k40, k99, k160, ite_self, nI_add, nI_leI, nI_ltI, nI_eq, nI_clamp, nI_sub', nI_mul, vpb_n, eq_self, implies_true, grd_t, grd_i, if_pos, if_neg, bI_k, bV_k, bx0, bx1, mh0, mh1, rd_s, rd_o, rd_j, rd_2k, rdL_1k, ↓reduceIte, Bool.false_eq_true, Bool.true_eq_false, Nat.add_eq, Nat.zero_add, Nat.add_zero, not_true_eq_false, not_false_eq_true]
    refine Ev.i ?_
    show EI (f_M_meet (u_Ct_link w 1 (nI i) (nI j) (nI b)) (nI i) (nI j) (nI b)) _
    unfold f_M_meet
    rw [mi _ e3, mj _ e3]
    simp (disch := omega) only [k0, k1, k2, k3, k4, k5, k6, k7, k8, k9, k10, k12, k20, k30, k31, k40, k99, k160, ite_self, nI_add, nI_leI, nI_ltI, nI_eq, nI_clamp, nI_sub', nI_mul, vpb_n, eq_self, implies_true, grd_t, grd_i, if_pos, if_neg, bI_k, bV_k, bx0, bx1, mh0, mh1, rd_s, rd_o, rd_j, rd_2k, rdL_1k, ↓reduceIte, Bool.false_eq_true, Bool.true_eq_false, Nat.add_eq, Nat.zero_add, Nat.add_zero, not_true_eq_false, not_false_eq_true, e71, hm]
    exact Ev.i ⟨rfl, inv2⟩
  · rw [if_neg hm]
    have hm' : bt (M i) j = false := by simpa using hm
    simp (disch := omega) only [k0, k1, k2, k3, k4, k5, k6, k7, k8, k9, k10, k12, k20, k30, k31, k40, k99, k160, ite_self, nI_add, nI_leI, nI_ltI, nI_eq, nI_clamp, nI_sub', nI_mul, vpb_n, eq_self, implies_true, grd_t, grd_i, if_pos, if_neg, bI_k, bV_k, bx0, bx1, mh0, mh1, rd_s, rd_o, rd_j, rd_2k, rdL_1k, ↓reduceIte, Bool.false_eq_true, Bool.true_eq_false, Nat.add_eq, Nat.zero_add, Nat.add_zero, not_true_eq_false, not_false_eq_true]
    refine Ev.i ?_
    show EI (f_M_meet (u_Ct_link w 1 (nI i) (nI j) (nI b)) (nI i) (nI j) (nI b)) _
    unfold f_M_meet
    rw [mi _ e3, mj _ e3]
    simp (disch := omega) only [k0, k1, k2, k3, k4, k5, k6, k7, k8, k9, k10, k12, k20, k30, k31, k40, k99, k160, ite_self, nI_add, nI_leI, nI_ltI, nI_eq, nI_clamp, nI_sub', nI_mul, vpb_n, eq_self, implies_true, grd_t, grd_i, if_pos, if_neg, bI_k, bV_k, bx0, bx1, mh0, mh1, rd_s, rd_o, rd_j, rd_2k, rdL_1k, ↓reduceIte, Bool.false_eq_true, Bool.true_eq_false, Nat.add_eq, Nat.zero_add, Nat.add_zero, not_true_eq_false, not_false_eq_true, e71, hm']
    exact Ev.i ⟨rfl, inv2⟩
