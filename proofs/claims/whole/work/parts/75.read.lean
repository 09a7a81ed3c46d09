/-! reading letters, words, numbers: both sides -/
def sg (E : Nat → Int32) (len p : Nat) : Int32 := if p < len then E p else -nI 1
theorem sg_in {E : Nat → Int32} {len p : Nat} (h : p < len) : sg E len p = E p := if_pos h
theorem sg_out {E : Nat → Int32} {len p : Nat} (h : len ≤ p) : sg E len p = -nI 1 := if_neg (by omega)
theorem sg_lt {E : Nat → Int32} {len p c : Nat} (hc : c < 1000) (h : sg E len p = nI c) : p < len := Decidable.byContradiction fun q => by
  rw [sg_out (by omega)] at h
  exact nI_ne_m1 (by omega) h.symm
def RCx (w : MW) (s len : Nat) (E : Nat → Int32) : Prop := s < 8 ∧ len ≤ 160 ∧ w.1 (35 + 2 * s) 1 = nI len ∧ ∀ i, i < len → (w.2.1 (35 + 2 * s + 1) i).toInt32 = E i
def RDF (w w' : MW) : Prop := (∀ a, a ≠ 52 → w'.1 a = w.1 a) ∧ w'.2 = w.2
theorem RDF.rfl (w : MW) : RDF w w := ⟨fun _ _ => Eq.refl _, Eq.refl _⟩
theorem RDF.tr {a b c : MW} (h1 : RDF a b) (h2 : RDF b c) : RDF a c := ⟨fun k p => (h2.1 k p).trans (h1.1 k p), h2.2.trans h1.2⟩
theorem RDF.set {w w' : MW} {j : Nat} {v : Int32} (h : RDF w w') : RDF w (setI w' 52 j v) := ⟨fun k p => by rw [rd_o p]; exact h.1 k p, by rw [rd_2]; exact h.2⟩
theorem RCx.rf {w w' : MW} {s len : Nat} {E : Nat → Int32} (h : RCx w s len E) (f : RDF w w') : RCx w' s len E := by
  obtain ⟨h1, h2, h3, h4⟩ := h
  exact ⟨h1, h2, by rw [f.1 _ (by omega)]; exact h3, by rw [f.2]; exact h4⟩
theorem X_asInt {w : MW} {s len p : Nat} {E : Nat → Int32} (h : RCx w s len E) (hp : p < 1000) : v_Sh_asInt w (35 + 2 * s) (nI p) = sg E len p := by
  obtain ⟨h1, h2, h3, h4⟩ := h
  by_cases q : p < len
  · rw [asInt_e (E := E) h3 h2 (h4 p q) q, sg_in q]
  · rw [sg_out (by omega)]
    unfold v_Sh_asInt
    have h0 : ¬ nI p < nI 0 := nI_pos (by omega)
    simp (disch := omega) only [k0, k1, k2, k3, k4, k5, k6, k7, k8, k9, k10, k12, k20, k30, k31, k40, k99, k160, ite_self, nI_add, nI_leI, nI_ltI, nI_eq, nI_clamp, nI_sub', nI_mul, vpb_n, eq_self, implies_true, grd_t, grd_i, if_pos, if_neg, bI_k, bV_k, bx0, bx1, mh0, mh1, rd_s, rd_o, rd_j, rd_2k, rdL_1k, ↓reduceIte, Bool.false_eq_true, Bool.true_eq_false, Nat.add_eq, Nat.zero_add, Nat.add_zero, not_true_eq_false, not_false_eq_true, h3, h0]
theorem X_take {w : MW} {s len p c : Nat} {E : Nat → Int32} (h : RCx w s len E) (hp : p ≤ len) (e : w.1 52 1 = nI p) (hc : c < 1000) : u_Rd_take w (35 + 2 * s) (nI c) = if sg E len p = nI c then setI w 52 1 (nI (p + 1)) else setI w 52 3 (nI p) := by
  have h2 := h.2.1
  unfold u_Rd_take
  rw [e, X_asInt h (by omega)]
  by_cases q : p < len
  · rw [has_g h.2.2.1 q (by omega)]
    by_cases q2 : sg E len p = nI c
    · simp (disch := omega) only [k0, k1, k2, k3, k4, k5, k6, k7, k8, k9, k10, k12, k20, k30, k31, k40, k99, k160, ite_self, nI_add, nI_leI, nI_ltI, nI_eq, nI_clamp, nI_sub', nI_mul, vpb_n, eq_self, implies_true, grd_t, grd_i, if_pos, if_neg, bI_k, bV_k, bx0, bx1, mh0, mh1, rd_s, rd_o, rd_j, rd_2k, rdL_1k, ↓reduceIte, Bool.false_eq_true, Bool.true_eq_false, Nat.add_eq, Nat.zero_add, Nat.add_zero, not_true_eq_false, not_false_eq_true, q2]
    · simp (disch := omega) only [k0, k1, k2, k3, k4, k5, k6, k7, k8, k9, k10, k12, k20, k30, k31, k40, k99, k160, ite_self, nI_add, nI_leI, nI_ltI, nI_eq, nI_clamp, nI_sub', nI_mul, vpb_n, eq_self, implies_true, grd_t, grd_i, if_pos, if_neg, bI_k, bV_k, bx0, bx1, mh0, mh1, rd_s, rd_o, rd_j, rd_2k, rdL_1k, ↓reduceIte, Bool.false_eq_true, Bool.true_eq_false, Nat.add_eq, Nat.zero_add, Nat.add_zero, not_true_eq_false, not_false_eq_true, q2]
  · rw [has_b h.2.2.1 (.inr (nI_le (by omega) (by omega)))]
    have q2 : ¬ sg E len p = nI c := fun z => q (sg_lt hc z)
    simp (disch := omega) only [k0, k1, k2, k3, k4, k5, k6, k7, k8, k9, k10, k12, k20, k30, k31, k40, k99, k160, ite_self, nI_add, nI_leI, nI_ltI, nI_eq, nI_clamp, nI_sub', nI_mul, vpb_n, eq_self, implies_true, grd_t, grd_i, if_pos, if_neg, bI_k, bV_k, bx0, bx1, mh0, mh1, rd_s, rd_o, rd_j, rd_2k, rdL_1k, ↓reduceIte, Bool.false_eq_true, Bool.true_eq_false, Nat.add_eq, Nat.zero_add, Nat.add_zero, not_true_eq_false, not_false_eq_true, q2]
theorem gd160 {w : MW} {s len p : Nat} {E : Nat → Int32} (h : RCx w s len E) (e : w.1 52 1 = nI p) : ¬ (w.1 52 1) < 0 → ¬ (w.1 (35 + 2 * s) 1) ≤ (w.1 52 1) → vpb (w.1 52 1) 160 = true := by
  intro q1 q2
  have h2 := h.2.1
  rw [h.2.2.1] at q2
  rw [e] at q1 q2 ⊢
  obtain ⟨j, hj, ej⟩ := nI_of q1
  rw [ej] at q2 ⊢
  have : j < len := Decidable.byContradiction fun z => q2 (nI_le (by omega) hj)
  exact vpb_n (by omega) (by omega)
/-- a word: where it ends, or fails -/
def wdN (g : Nat → Int32) (c : Nat → Nat) : Nat → Nat → Nat → Nat × Bool
  | 0, _, p => (p, true)
  | m + 1, i, p => if g p = nI (c i) then wdN g c m (i + 1) (p + 1) else (p, false)
def TX (a i : Nat) : Nat := ([[109, 97, 110], [109, 101, 101, 116], [112, 97, 114, 116], [119, 111, 114, 100], [104, 117, 115, 104]].getD (a - 84) []).getD i 0
theorem tx_e {a i : Nat} (h1 : 84 ≤ a) (h2 : a < 89) (hi : i < tLen a) : tCh a (nI i) = nI (TX a i) ∧ TX a i < 1000 := by
  have key : ∀ a, a < 89 → 84 ≤ a → ∀ i, i < tLen a → tCh a (nI i) = nI (TX a i) ∧ TX a i < 1000 := by decide +kernel
  exact key a h2 h1 i hi
theorem tl_le {a : Nat} : tLen a ≤ 4 := by
  unfold tLen
  rcases (show a - 84 = 0 ∨ a - 84 = 1 ∨ a - 84 = 2 ∨ a - 84 = 3 ∨ a - 84 = 4 ∨ 5 ≤ a - 84 by omega) with h | h | h | h | h | h
  · rw [h]; decide
  · rw [h]; decide
  · rw [h]; decide
  · rw [h]; decide
  · rw [h]; decide
  · obtain ⟨k, hk⟩ : ∃ k, a - 84 = k + 5 := ⟨a - 84 - 5, by omega⟩
    rw [hk]
    show 0 ≤ 4
    omega
def XP (w' : MW) (r : Nat × Bool) : Prop := (r.2 = true ∧ w'.1 52 3 = -nI 1 ∧ w'.1 52 1 = nI r.1) ∨ (r.2 = false ∧ w'.1 52 3 = nI r.1)
theorem wdN_le {E : Nat → Int32} {len : Nat} {c : Nat → Nat} (hc : ∀ i, c i < 1000) : ∀ (m i p : Nat), p ≤ len → p ≤ (wdN (sg E len) c m i p).1 ∧ (wdN (sg E len) c m i p).1 ≤ len := by
  intro m
  induction m with
  | zero => intro i p h; exact ⟨Nat.le_refl _, h⟩
  | succ m ih =>
    intro i p h
    rw [wdN]
    split
    · next q =>
      have h2 := sg_lt (hc i) q
      have := ih (i + 1) (p + 1) (by omega)
      exact ⟨by omega, this.2⟩
    · exact ⟨Nat.le_refl _, h⟩
theorem TX_lt (a i : Nat) : TX a i < 1000 := by
  unfold TX
  rcases (show a - 84 = 0 ∨ a - 84 = 1 ∨ a - 84 = 2 ∨ a - 84 = 3 ∨ a - 84 = 4 ∨ 5 ≤ a - 84 by omega) with h | h | h | h | h | h
  all_goals first
    | (rw [h]
       rcases (show i = 0 ∨ i = 1 ∨ i = 2 ∨ i = 3 ∨ 4 ≤ i by omega) with q | q | q | q | q
       · rw [q]; decide
       · rw [q]; decide
       · rw [q]; decide
       · rw [q]; decide
       · obtain ⟨k, hk⟩ : ∃ k, i = k + 4 := ⟨i - 4, by omega⟩
         rw [hk]
         show 0 < 1000
         omega)
    | (obtain ⟨k, hk⟩ : ∃ k, a - 84 = k + 5 := ⟨a - 84 - 5, by omega⟩
       rw [hk]
       show 0 < 1000
       omega)
theorem X_word {w : MW} {s len p a : Nat} {E : Nat → Int32} (h : RCx w s len E) (hp : p ≤ len) (e : w.1 52 1 = nI p) (e3 : w.1 52 3 = -nI 1) (ha : 84 ≤ a) (ha2 : a < 89) :
    EV (f_Rd_takeWord w (35 + 2 * s) a) (fun w' => RDF w w' ∧ XP w' (wdN (sg E len) (TX a) (tLen a) 0 p)) := by
  have hl := h.2.1
  have ht := tl_le (a := a)
  unfold f_Rd_takeWord
  refine lp (σ := MW) (F := fun m w' i => f_Rd_takeWord_2 (35 + 2 * s) a m w' (nI i)) (fun w' i => RDF w w' ∧ ((w'.1 52 3 = -nI 1 ∧ w'.1 52 1 = nI (p + i) ∧ p + i ≤ len ∧ wdN (sg E len) (TX a) (tLen a - i) i (p + i) = wdN (sg E len) (TX a) (tLen a) 0 p) ∨ ∃ q, q ≤ 160 ∧ w'.1 52 3 = nI q ∧ wdN (sg E len) (TX a) (tLen a) 0 p = (q, false))) (tLen a) 0 w ⟨RDF.rfl w, .inl ⟨e3, e, hp, by rw [Nat.sub_zero, Nat.add_zero]⟩⟩ (by omega) (by omega) ?_ ?_
  · intro m w' hi
    obtain ⟨i1, i2⟩ := hi
    show Ev (f_Rd_takeWord_2 (35 + 2 * s) a (m + 1) w' (nI (tLen a))) _
    rw [f_Rd_takeWord_2]
    unfold f_JS_length
    simp (disch := omega) only [k0, k1, k2, k3, k4, k5, k6, k7, k8, k9, k10, k12, k20, k30, k31, k40, k99, k160, ite_self, nI_add, nI_leI, nI_ltI, nI_eq, nI_clamp, nI_sub', nI_mul, vpb_n, eq_self, implies_true, grd_t, grd_i, if_pos, if_neg, bI_k, bV_k, bx0, bx1, mh0, mh1, rd_s, rd_o, rd_j, rd_2k, rdL_1k, ↓reduceIte, Bool.false_eq_true, Bool.true_eq_false, Nat.add_eq, Nat.zero_add, Nat.add_zero, not_true_eq_false, not_false_eq_true]
    refine Ev.v ⟨i1, ?_⟩
    rcases i2 with ⟨j1, j2, j3, j4⟩ | ⟨q, q0, q1, q2⟩
    · rw [Nat.sub_self] at j4
      rw [← j4]
      exact .inl ⟨rfl, j1, j2⟩
    · rw [q2]
      exact .inr ⟨rfl, q1⟩
  · intro m w' i _ hi hinv kk
    obtain ⟨i1, i2⟩ := hinv
    show Ev (f_Rd_takeWord_2 (35 + 2 * s) a (m + 1) w' (nI i)) _
    rw [f_Rd_takeWord_2]
    unfold f_JS_length f_JS_charAt
    rcases i2 with ⟨j1, j2, j3, j4⟩ | ⟨q, q0, q1, q2⟩
    · obtain ⟨t1, t2⟩ := tx_e ha ha2 hi
      have hc := h.rf i1
      simp (disch := omega) only [k0, k1, k2, k3, k4, k5, k6, k7, k8, k9, k10, k12, k20, k30, k31, k40, k99, k160, ite_self, nI_add, nI_leI, nI_ltI, nI_eq, nI_clamp, nI_sub', nI_mul, vpb_n, eq_self, implies_true, grd_t, grd_i, if_pos, if_neg, bI_k, bV_k, bx0, bx1, mh0, mh1, rd_s, rd_o, rd_j, rd_2k, rdL_1k, ↓reduceIte, Bool.false_eq_true, Bool.true_eq_false, Nat.add_eq, Nat.zero_add, Nat.add_zero, not_true_eq_false, not_false_eq_true, j1]
      rw [t1]
      have gd := gd160 hc j2
      refine Ev.grd (fun _ => gd) ?_
      rw [X_take hc (by omega) j2 t2]
      rw [show tLen a - i = (tLen a - (i + 1)) + 1 by omega, wdN] at j4
      by_cases c : sg E len (p + i) = nI (TX a i)
      · rw [if_pos c] at j4 ⊢
        have hlt := sg_lt t2 c
        exact kk _ ⟨i1.set, .inl ⟨by rw [rd_j (by omega)]; exact j1, by rw [rd_s]; rfl, by omega, by rw [← j4]; rfl⟩⟩
      · rw [if_neg c] at j4 ⊢
        exact kk _ ⟨i1.set, .inr ⟨p + i, by omega, by rw [rd_s], j4.symm⟩⟩
    · have hne : ¬ w'.1 52 3 = -nI 1 := by rw [q1]; exact nI_ne_m1 (by omega)
      simp (disch := omega) only [k0, k1, k2, k3, k4, k5, k6, k7, k8, k9, k10, k12, k20, k30, k31, k40, k99, k160, ite_self, nI_add, nI_leI, nI_ltI, nI_eq, nI_clamp, nI_sub', nI_mul, vpb_n, eq_self, implies_true, grd_t, grd_i, if_pos, if_neg, bI_k, bV_k, bx0, bx1, mh0, mh1, rd_s, rd_o, rd_j, rd_2k, rdL_1k, ↓reduceIte, Bool.false_eq_true, Bool.true_eq_false, Nat.add_eq, Nat.zero_add, Nat.add_zero, not_true_eq_false, not_false_eq_true, hne]
      exact Ev.v ⟨i1, by rw [q2]; exact .inr ⟨rfl, q1⟩⟩
/-! the reference's letters -/
def MCx (w : MW) (s len : Nat) (E : Nat → Int32) : Prop := s < 8 ∧ len ≤ 160 ∧ w.1 62 23 = nI s ∧ w.1 64 s = nI len ∧ ∀ i, i < len → (w.2.1 65 (160 * s + i)).toInt32 = E i
def MFr (w w' : MW) : Prop := (∀ a j, ¬ (a = 62 ∧ j = 24) → a ≠ 80 → w'.1 a j = w.1 a j) ∧ w'.2 = w.2
theorem MFr.rfl (w : MW) : MFr w w := ⟨fun _ _ _ _ => Eq.refl _, Eq.refl _⟩
theorem MFr.tr {a b c : MW} (h1 : MFr a b) (h2 : MFr b c) : MFr a c := ⟨fun k j p q => (h2.1 k j p q).trans (h1.1 k j p q), h2.2.trans h1.2⟩
theorem MFr.set {w w' : MW} {a j : Nat} {v : Int32} (h : MFr w w') (q : (a = 62 ∧ j = 24) ∨ a = 80) : MFr w (setI w' a j v) := ⟨fun k l p1 p2 => by rw [rd_ite, if_neg (by omega)]; exact h.1 k l p1 p2, by rw [rd_2]; exact h.2⟩
theorem MCx.mf {w w' : MW} {s len : Nat} {E : Nat → Int32} (h : MCx w s len E) (f : MFr w w') : MCx w' s len E := by
  obtain ⟨h1, h2, h3, h4, h5⟩ := h
  exact ⟨h1, h2, by rw [f.1 62 23 (by omega) (by omega)]; exact h3, by rw [f.1 64 s (by omega) (by omega)]; exact h4, by rw [f.2]; exact h5⟩
theorem M_sign {w : MW} {s len p : Nat} {E : Nat → Int32} (h : MCx w s len E) (hp : p ≤ len) (e : w.1 62 24 = nI p) : v_M_sign w = sg E len p := by
  obtain ⟨h1, h2, h3, h4, h5⟩ := h
  unfold v_M_sign
  by_cases q : p < len
  · rw [sg_in q, ← h5 p q]
    simp (disch := omega) only [k0, k1, k2, k3, k4, k5, k6, k7, k8, k9, k10, k12, k20, k30, k31, k40, k99, k160, ite_self, nI_add, nI_leI, nI_ltI, nI_eq, nI_clamp, nI_sub', nI_mul, vpb_n, eq_self, implies_true, grd_t, grd_i, if_pos, if_neg, bI_k, bV_k, bx0, bx1, mh0, mh1, rd_s, rd_o, rd_j, rd_2k, rdL_1k, ↓reduceIte, Bool.false_eq_true, Bool.true_eq_false, Nat.add_eq, Nat.zero_add, Nat.add_zero, not_true_eq_false, not_false_eq_true, h3, h4, e]
  · rw [sg_out (by omega)]
    simp (disch := omega) only [k0, k1, k2, k3, k4, k5, k6, k7, k8, k9, k10, k12, k20, k30, k31, k40, k99, k160, ite_self, nI_add, nI_leI, nI_ltI, nI_eq, nI_clamp, nI_sub', nI_mul, vpb_n, eq_self, implies_true, grd_t, grd_i, if_pos, if_neg, bI_k, bV_k, bx0, bx1, mh0, mh1, rd_s, rd_o, rd_j, rd_2k, rdL_1k, ↓reduceIte, Bool.false_eq_true, Bool.true_eq_false, Nat.add_eq, Nat.zero_add, Nat.add_zero, not_true_eq_false, not_false_eq_true, h3, h4, e]
theorem M_is {w : MW} {s len p c : Nat} {E : Nat → Int32} (h : MCx w s len E) (hp : p ≤ len) (e : w.1 62 24 = nI p) : v_M_is w (nI c) = (if sg E len p = nI c then nI 1 else nI 0) ∧ u_M_is w (nI c) = if sg E len p = nI c then setI w 62 24 (nI (p + 1)) else w := by
  unfold v_M_is u_M_is
  rw [M_sign h hp e, e, nI_1]
  exact ⟨rfl, rfl⟩
theorem gdM {w : MW} {s len p : Nat} {E : Nat → Int32} (h : MCx w s len E) (hp : p ≤ len) (e : w.1 62 24 = nI p) : vpb (w.1 62 23) 8 = true ∧ (¬ (w.1 64 (w.1 62 23).toNatClampNeg) ≤ (w.1 62 24) → vpb ((160 * (w.1 62 23)) + (w.1 62 24)) 1280 = true) := by
  obtain ⟨h1, h2, h3, h4, h5⟩ := h
  rw [h3, nI_clamp (by omega), h4, e]
  refine ⟨vpb_n h1 (by omega), fun q => ?_⟩
  have q2 : ¬ len ≤ p := fun c => q (nI_le c (by omega))
  have e1 : (160 : Int32) * nI s + nI p = nI (160 * s + p) := by rw [k160, nI_mul, nI_add]
  rw [e1]
  exact vpb_n (by omega) (by omega)
theorem M_word {w : MW} {s len p a : Nat} {E : Nat → Int32} (h : MCx w s len E) (hp : p ≤ len) (e : w.1 62 24 = nI p) (ha : 84 ≤ a) (ha2 : a < 89) :
    EI (f_M_word_2 w a) (fun v w' => v = nI (if (wdN (sg E len) (TX a) (tLen a) 0 p).2 = true then 1 else 0) ∧ w'.1 62 24 = nI (wdN (sg E len) (TX a) (tLen a) 0 p).1 ∧ MFr w w' ∧ w'.1 80 = w.1 80) := by
  have hl := h.2.1
  have ht := tl_le (a := a)
  unfold f_M_word_2
  refine lp (σ := MW) (F := fun m w' i => f_M_word_2_2 a m w' (nI i)) (fun w' i => MFr w w' ∧ w'.1 80 = w.1 80 ∧ w'.1 62 24 = nI (p + i) ∧ p + i ≤ len ∧ wdN (sg E len) (TX a) (tLen a - i) i (p + i) = wdN (sg E len) (TX a) (tLen a) 0 p) (tLen a) 0 w ⟨MFr.rfl w, rfl, e, hp, by rw [Nat.sub_zero, Nat.add_zero]⟩ (by omega) (by omega) ?_ ?_
  · intro m w' hi
    obtain ⟨i1, i0, j2, j3, j4⟩ := hi
    show Ev (f_M_word_2_2 a (m + 1) w' (nI (tLen a))) _
    rw [f_M_word_2_2]
    unfold f_JS_length
    simp (disch := omega) only [k0, k1, k2, k3, k4, k5, k6, k7, k8, k9, k10, k12, k20, k30, k31, k40, k99, k160, ite_self, nI_add, nI_leI, nI_ltI, nI_eq, nI_clamp, nI_sub', nI_mul, vpb_n, eq_self, implies_true, grd_t, grd_i, if_pos, if_neg, bI_k, bV_k, bx0, bx1, mh0, mh1, rd_s, rd_o, rd_j, rd_2k, rdL_1k, ↓reduceIte, Bool.false_eq_true, Bool.true_eq_false, Nat.add_eq, Nat.zero_add, Nat.add_zero, not_true_eq_false, not_false_eq_true]
    rw [Nat.sub_self] at j4
    rw [← j4]
    exact Ev.i ⟨rfl, j2, i1, i0⟩
  · intro m w' i _ hi hinv kk
    obtain ⟨i1, i0, j2, j3, j4⟩ := hinv
    obtain ⟨t1, t2⟩ := tx_e ha ha2 hi
    have hc := h.mf i1
    obtain ⟨gd1, gd2⟩ := gdM hc j3 j2
    obtain ⟨v1, v2⟩ := M_is (c := TX a i) hc j3 j2
    show Ev (f_M_word_2_2 a (m + 1) w' (nI i)) _
    rw [f_M_word_2_2]
    unfold f_JS_length f_JS_charAt
    rw [show tLen a - i = (tLen a - (i + 1)) + 1 by omega, wdN] at j4
    have hlt : ¬ nI (tLen a) ≤ nI i := nI_ge hi (by omega)
    rw [bI_k, if_neg hlt, grd_i (vpb_n hi (by omega)), bI_k, t1]
    refine Ev.grd gd1 (Ev.grd gd2 ?_)
    rw [v1, v2]
    by_cases c : sg E len (p + i) = nI (TX a i)
    · rw [if_pos c] at j4 ⊢
      have hlt := sg_lt t2 c
      rw [if_pos c, if_neg (show ¬ nI 1 = (0 : Int32) by decide), nI_1]
      exact kk _ ⟨i1.set (.inl ⟨rfl, rfl⟩), by rw [rd_o (by omega)]; exact i0, by rw [rd_s]; rfl, by omega, by rw [← j4]; rfl⟩
    · rw [if_neg c] at j4 ⊢
      rw [if_neg c, if_pos (show nI 0 = (0 : Int32) from rfl)]
      rw [← j4]
      exact Ev.i ⟨rfl, j2, i1, i0⟩
/-! numbers -/
def dg (x : Int32) : Option Nat := if x < nI 48 then none else if nI 57 < x then none else some (x.toNatClampNeg - 48)
theorem dg_s {x : Int32} {d : Nat} (h : dg x = some d) : x = nI (d + 48) ∧ d ≤ 9 := by
  unfold dg at h
  by_cases c1 : x < nI 48
  · rw [if_pos c1] at h
    cases h
  · by_cases c2 : nI 57 < x
    · rw [if_neg c1, if_pos c2] at h
      cases h
    · rw [if_neg c1, if_neg c2] at h
      have c0 : ¬ x < 0 := fun q => c1 (by
        rw [Int32.lt_iff_toInt_lt, show (0 : Int32).toInt = 0 by decide] at q
        rw [Int32.lt_iff_toInt_lt, nI_toInt (by omega)]
        omega)
      obtain ⟨k, hk, rfl⟩ := nI_of c0
      rw [nI_ltI hk (by omega)] at c1
      rw [nI_ltI (by omega) hk] at c2
      rw [nI_clamp hk] at h
      have := Option.some.inj h
      exact ⟨by congr 1; omega, by omega⟩
theorem dg_0 {E : Nat → Int32} {len p d : Nat} (h : dg (sg E len p) = some d) : p < len := Decidable.byContradiction fun q => by
  rw [sg_out (by omega)] at h
  have := (dg_s h).1
  exact nI_ne_m1 (m := d + 48) (by have := (dg_s h).2; omega) this.symm
def tkN (g : Nat → Int32) (b p : Nat) : Nat × Option Nat :=
  if g p = nI 32 then (match dg (g (p + 1)) with
    | none => (p + 1, none)
    | some d => match dg (g (p + 2)) with
      | none => if d < b then (p + 2, some d) else (p + 1, none)
      | some d2 => if 10 * d + d2 < b then (p + 3, some (10 * d + d2)) else (p + 1, none))
  else (p, none)
theorem k48' : (48 : Int32) = nI 48 := by decide
theorem k57 : (57 : Int32) = nI 57 := by decide
theorem k32' : (32 : Int32) = nI 32 := by decide
theorem isD {w : MW} {x : Int32} : v_Rd_isDigit w x = if (dg x).isSome = true then nI 1 else nI 0 := by
  unfold v_Rd_isDigit dg
  by_cases c1 : x < nI 48
  · simp (disch := omega) only [k0, k1, k2, k3, k4, k5, k6, k7, k8, k9, k10, k12, k20, k30, k31, k40, k99, k160, ite_self, nI_add, nI_leI, nI_ltI, nI_eq, nI_clamp, nI_sub', nI_mul, vpb_n, eq_self, implies_true, grd_t, grd_i, if_pos, if_neg, bI_k, bV_k, bx0, bx1, mh0, mh1, rd_s, rd_o, rd_j, rd_2k, rdL_1k, ↓reduceIte, Bool.false_eq_true, Bool.true_eq_false, Nat.add_eq, Nat.zero_add, Nat.add_zero, not_true_eq_false, not_false_eq_true, k48', k57, c1]
    rfl
  · by_cases c2 : nI 57 < x
    · simp (disch := omega) only [k0, k1, k2, k3, k4, k5, k6, k7, k8, k9, k10, k12, k20, k30, k31, k40, k99, k160, ite_self, nI_add, nI_leI, nI_ltI, nI_eq, nI_clamp, nI_sub', nI_mul, vpb_n, eq_self, implies_true, grd_t, grd_i, if_pos, if_neg, bI_k, bV_k, bx0, bx1, mh0, mh1, rd_s, rd_o, rd_j, rd_2k, rdL_1k, ↓reduceIte, Bool.false_eq_true, Bool.true_eq_false, Nat.add_eq, Nat.zero_add, Nat.add_zero, not_true_eq_false, not_false_eq_true, k48', k57, c1, c2]
      rfl
    · simp (disch := omega) only [k0, k1, k2, k3, k4, k5, k6, k7, k8, k9, k10, k12, k20, k30, k31, k40, k99, k160, ite_self, nI_add, nI_leI, nI_ltI, nI_eq, nI_clamp, nI_sub', nI_mul, vpb_n, eq_self, implies_true, grd_t, grd_i, if_pos, if_neg, bI_k, bV_k, bx0, bx1, mh0, mh1, rd_s, rd_o, rd_j, rd_2k, rdL_1k, ↓reduceIte, Bool.false_eq_true, Bool.true_eq_false, Nat.add_eq, Nat.zero_add, Nat.add_zero, not_true_eq_false, not_false_eq_true, k48', k57, c1, c2]
      rfl
