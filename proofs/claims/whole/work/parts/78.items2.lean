/-! items: the class' whole, the reference of it -/
theorem wI_le {E : Nat → Int32} {len a p : Nat} (hp : p ≤ len) : p ≤ (wI (sg E len) a p).1 ∧ (wI (sg E len) a p).1 ≤ len := wdN_le (TX_lt a) _ _ _ hp
theorem X_itemA {w : MW} {s len p k : Nat} {E : Nat → Int32} {c : CS} (h : RCx w s len E) (x : X3 w c) (gd : GD c) (hp : p ≤ len) (e : w.1 52 1 = nI p) (e3 : w.1 52 3 = -nI 1) (hk : k < 5)
    (hb : ∀ w5, v_Rd_itemBy w5 (sg E len p) (sg E len (p + 1)) = nI k) (Q : Option Value → MW → Prop)
    (hf : ∀ w', RDF w w' → (wI (sg E len) (84 + k) p).2 = false → w'.1 52 3 = nI (wI (sg E len) (84 + k) p).1 → Q none w')
    (hroom : ∀ w', RDF w w' → (wI (sg E len) (84 + k) p).2 = true → ((k = 0 ∧ 8 ≤ c.1) ∨ (k = 3 ∧ 30 ≤ c.2.1)) → w'.1 52 3 = nI p → Q none w')
    (hgo : ∀ w', RDF w w' → (wI (sg E len) (84 + k) p).2 = true → ¬ ((k = 0 ∧ 8 ≤ c.1) ∨ (k = 3 ∧ 30 ≤ c.2.1)) → w'.1 52 3 = -nI 1 → w'.1 52 1 = nI (wI (sg E len) (84 + k) p).1 →
      Ev (if k = 0 then (bV (f_Rd_readMan w' (35 + 2 * s)) (fun w10 => some (none, w10))) else if k = 1 then (bV (f_Rd_readMeeting w' (35 + 2 * s) (nI 1)) (fun w13 => some (none, w13))) else if k = 2 then (bV (f_Rd_readMeeting w' (35 + 2 * s) (nI 0)) (fun w16 => some (none, w16))) else if k = 3 then (bV (f_Rd_readWord w' (35 + 2 * s)) (fun w19 => some (none, w19))) else some (none, u_Ct_hushWords w' 23)) Q) :
    Ev (f_Rd_readItem w (35 + 2 * s)) Q := by
  have hl := h.2.1
  have hn := gd.1.1
  unfold f_Rd_readItem
  have g2 : ¬ ((w.1 52 1) + 1) < 0 → ¬ (w.1 (35 + 2 * s) 1) ≤ ((w.1 52 1) + 1) → vpb ((w.1 52 1) + 1) 160 = true := by
    intro _ q
    rw [e, nI_1, h.2.2.1] at q
    rw [e, nI_1]
    have : p + 1 < len := Decidable.byContradiction fun z => q (nI_le (by omega) (by omega))
    exact vpb_n (by omega) (by omega)
  rw [grd_i (gd160 h e), grd_i g2, e, X_asInt h (by omega), nI_1, X_asInt h (by omega), hb]
  have hw : v_Rd_wordOf w (nI k) = 84 + k := by
    rcases (show k = 0 ∨ k = 1 ∨ k = 2 ∨ k = 3 ∨ k = 4 by omega) with rfl | rfl | rfl | rfl | rfl <;> rfl
  rw [hw]
  refine Ev.bV (X_word h hp e e3 (a := 84 + k) (by omega) (by omega)) (fun w5 h5 => ?_)
  obtain ⟨f5, hx⟩ := h5
  rcases hx with ⟨q1, q2, q3⟩ | ⟨q1, q2⟩
  · have q2' : w5.1 52 3 = (-1 : Int32) := q2
    have x5 := x.rdf f5 hn
    rw [if_pos q2']
    have hlr : f_Rd_lacksRoom w5 (nI k) = some (some (.int (if (k = 0 ∧ 8 ≤ c.1) ∨ (k = 3 ∧ 30 ≤ c.2.1) then nI 1 else nI 0)), w5) := by
      have c1 := x5.1.1
      have c3 := x5.1.2.1
      have hL := gd.1.2.1
      rcases (show k = 0 ∨ k = 1 ∨ k = 2 ∨ k = 3 ∨ k = 4 by omega) with rfl | rfl | rfl | rfl | rfl
      · by_cases z : 8 ≤ c.1
        · skip
          have ez : (if (((0:Nat) = 0 ∧ 8 ≤ c.1) ∨ ((0:Nat) = 3 ∧ 30 ≤ c.2.1)) then nI 1 else nI 0 : Int32) = nI 1 := if_pos (.inl ⟨rfl, z⟩)
          rw [ez]
          unfold f_Rd_lacksRoom
          simp (disch := omega) only [k0, k1, k2, k3, k4, k5, k6, k7, k8, k9, k10, k12, k20, k30, k31, k40, k99, k160, ite_self, nI_add, nI_leI, nI_ltI, nI_eq, nI_clamp, nI_sub', nI_mul, vpb_n, eq_self, implies_true, grd_t, grd_i, if_pos, if_neg, bI_k, bV_k, bx0, bx1, mh0, mh1, rd_s, rd_o, rd_j, rd_2k, rdL_1k, ↓reduceIte, Bool.false_eq_true, Bool.true_eq_false, Nat.add_eq, Nat.zero_add, Nat.add_zero, not_true_eq_false, not_false_eq_true, c1]
        · skip
          have ez : (if (((0:Nat) = 0 ∧ 8 ≤ c.1) ∨ ((0:Nat) = 3 ∧ 30 ≤ c.2.1)) then nI 1 else nI 0 : Int32) = nI 0 := if_neg (by omega)
          rw [ez]
          unfold f_Rd_lacksRoom
          simp (disch := omega) only [k0, k1, k2, k3, k4, k5, k6, k7, k8, k9, k10, k12, k20, k30, k31, k40, k99, k160, ite_self, nI_add, nI_leI, nI_ltI, nI_eq, nI_clamp, nI_sub', nI_mul, vpb_n, eq_self, implies_true, grd_t, grd_i, if_pos, if_neg, bI_k, bV_k, bx0, bx1, mh0, mh1, rd_s, rd_o, rd_j, rd_2k, rdL_1k, ↓reduceIte, Bool.false_eq_true, Bool.true_eq_false, Nat.add_eq, Nat.zero_add, Nat.add_zero, not_true_eq_false, not_false_eq_true, c1]
      · skip
        have ez : (if (((1:Nat) = 0 ∧ 8 ≤ c.1) ∨ ((1:Nat) = 3 ∧ 30 ≤ c.2.1)) then nI 1 else nI 0 : Int32) = nI 0 := if_neg (by omega)
        rw [ez]
        unfold f_Rd_lacksRoom
        simp (disch := omega) only [k0, k1, k2, k3, k4, k5, k6, k7, k8, k9, k10, k12, k20, k30, k31, k40, k99, k160, ite_self, nI_add, nI_leI, nI_ltI, nI_eq, nI_clamp, nI_sub', nI_mul, vpb_n, eq_self, implies_true, grd_t, grd_i, if_pos, if_neg, bI_k, bV_k, bx0, bx1, mh0, mh1, rd_s, rd_o, rd_j, rd_2k, rdL_1k, ↓reduceIte, Bool.false_eq_true, Bool.true_eq_false, Nat.add_eq, Nat.zero_add, Nat.add_zero, not_true_eq_false, not_false_eq_true]
      · skip
        have ez : (if (((2:Nat) = 0 ∧ 8 ≤ c.1) ∨ ((2:Nat) = 3 ∧ 30 ≤ c.2.1)) then nI 1 else nI 0 : Int32) = nI 0 := if_neg (by omega)
        rw [ez]
        unfold f_Rd_lacksRoom
        simp (disch := omega) only [k0, k1, k2, k3, k4, k5, k6, k7, k8, k9, k10, k12, k20, k30, k31, k40, k99, k160, ite_self, nI_add, nI_leI, nI_ltI, nI_eq, nI_clamp, nI_sub', nI_mul, vpb_n, eq_self, implies_true, grd_t, grd_i, if_pos, if_neg, bI_k, bV_k, bx0, bx1, mh0, mh1, rd_s, rd_o, rd_j, rd_2k, rdL_1k, ↓reduceIte, Bool.false_eq_true, Bool.true_eq_false, Nat.add_eq, Nat.zero_add, Nat.add_zero, not_true_eq_false, not_false_eq_true]
      · by_cases z : 30 ≤ c.2.1
        · skip
          have ez : (if (((3:Nat) = 0 ∧ 8 ≤ c.1) ∨ ((3:Nat) = 3 ∧ 30 ≤ c.2.1)) then nI 1 else nI 0 : Int32) = nI 1 := if_pos (.inr ⟨rfl, z⟩)
          rw [ez]
          unfold f_Rd_lacksRoom
          simp (disch := omega) only [k0, k1, k2, k3, k4, k5, k6, k7, k8, k9, k10, k12, k20, k30, k31, k40, k99, k160, ite_self, nI_add, nI_leI, nI_ltI, nI_eq, nI_clamp, nI_sub', nI_mul, vpb_n, eq_self, implies_true, grd_t, grd_i, if_pos, if_neg, bI_k, bV_k, bx0, bx1, mh0, mh1, rd_s, rd_o, rd_j, rd_2k, rdL_1k, ↓reduceIte, Bool.false_eq_true, Bool.true_eq_false, Nat.add_eq, Nat.zero_add, Nat.add_zero, not_true_eq_false, not_false_eq_true, c3]
        · skip
          have ez : (if (((3:Nat) = 0 ∧ 8 ≤ c.1) ∨ ((3:Nat) = 3 ∧ 30 ≤ c.2.1)) then nI 1 else nI 0 : Int32) = nI 0 := if_neg (by omega)
          rw [ez]
          unfold f_Rd_lacksRoom
          simp (disch := omega) only [k0, k1, k2, k3, k4, k5, k6, k7, k8, k9, k10, k12, k20, k30, k31, k40, k99, k160, ite_self, nI_add, nI_leI, nI_ltI, nI_eq, nI_clamp, nI_sub', nI_mul, vpb_n, eq_self, implies_true, grd_t, grd_i, if_pos, if_neg, bI_k, bV_k, bx0, bx1, mh0, mh1, rd_s, rd_o, rd_j, rd_2k, rdL_1k, ↓reduceIte, Bool.false_eq_true, Bool.true_eq_false, Nat.add_eq, Nat.zero_add, Nat.add_zero, not_true_eq_false, not_false_eq_true, c3]
      · skip
        have ez : (if (((4:Nat) = 0 ∧ 8 ≤ c.1) ∨ ((4:Nat) = 3 ∧ 30 ≤ c.2.1)) then nI 1 else nI 0 : Int32) = nI 0 := if_neg (by omega)
        rw [ez]
        unfold f_Rd_lacksRoom
        simp (disch := omega) only [k0, k1, k2, k3, k4, k5, k6, k7, k8, k9, k10, k12, k20, k30, k31, k40, k99, k160, ite_self, nI_add, nI_leI, nI_ltI, nI_eq, nI_clamp, nI_sub', nI_mul, vpb_n, eq_self, implies_true, grd_t, grd_i, if_pos, if_neg, bI_k, bV_k, bx0, bx1, mh0, mh1, rd_s, rd_o, rd_j, rd_2k, rdL_1k, ↓reduceIte, Bool.false_eq_true, Bool.true_eq_false, Nat.add_eq, Nat.zero_add, Nat.add_zero, not_true_eq_false, not_false_eq_true]
    rw [hlr, bI_k]
    by_cases z : (k = 0 ∧ 8 ≤ c.1) ∨ (k = 3 ∧ 30 ≤ c.2.1)
    · rw [if_pos z, if_neg (show ¬ nI 1 = (0 : Int32) by decide)]
      exact Ev.r (hroom _ f5.set q1 z rd_s)
    · rw [if_neg z, if_pos (show nI 0 = (0 : Int32) from rfl)]
      have go := hgo w5 f5 q1 z q2 q3
      rcases (show k = 0 ∨ k = 1 ∨ k = 2 ∨ k = 3 ∨ k = 4 by omega) with rfl | rfl | rfl | rfl | rfl
      · exact go
      · exact go
      · exact go
      · exact go
      · exact go
  · have hle := (wI_le (E := E) (len := len) (a := 84 + k) hp).2
    have hne : ¬ w5.1 52 3 = (-1 : Int32) := by
      rw [q2]
      exact nI_ne_m1 (by
        show (wI (sg E len) (84 + k) p).1 < 2 ^ 31
        omega)
    rw [if_neg hne]
    exact Ev.r (hf w5 f5 q1 q2)
theorem XI.tr {w w1 w2 : MW} {r : Nat × Option CS} (f : RDF w w1) (h : XI w1 w2 r) : XI w w2 r := ⟨f.fx.tr h.1, by rw [h.2.1, f.1 23 (by omega)], h.2.2⟩
theorem bV_id {x : Option RT} {P : MW → Prop} (h : EV x P) : EV (bV x (fun w => some (none, w))) P := Ev.bV h (fun w q => Ev.v q)
theorem X_item {w : MW} {s len p : Nat} {E : Nat → Int32} {c : CS} (h : RCx w s len E) (x : X3 w c) (gd : GD c) (hp : p ≤ len) (e : w.1 52 1 = nI p) (e3 : w.1 52 3 = -nI 1) :
    EV (f_Rd_readItem w (35 + 2 * s)) (fun w' => XI w w' (itN (sg E len) c p)) := by
  have hl := h.2.1
  have hn := gd.1.1
  have n109 : ∀ j, j ≤ 200 → j ≠ 109 → ¬ nI j = nI 109 := fun j h1 h2 z => h2 ((nI_eq (by omega) (by omega)).mp z)
  have fl : ∀ (a : Nat) (w' : MW) (o : Option CS), o = none → RDF w w' → w'.1 52 3 = nI (wI (sg E len) a p).1 → XI w w' ((wI (sg E len) a p).1, o) := fun a w' o ho f q => XI.fail f (by have := (wI_le (E := E) (a := a) hp).2; omega) q ho
  unfold itN
  by_cases c1 : sg E len p = nI 109
  · rw [if_pos c1]
    by_cases c2 : sg E len (p + 1) = nI 97
    · rw [if_pos c2]
      have hb : ∀ w5, v_Rd_itemBy w5 (sg E len p) (sg E len (p + 1)) = nI 0 := fun w5 => by
        unfold v_Rd_itemBy
        rw [c1, c2]
        rfl
      refine X_itemA h x gd hp e e3 (k := 0) (by omega) hb _ (fun w' f q1 q2 => ⟨rfl, ?_⟩) (fun w' f q1 q2 q3 => ⟨rfl, ?_⟩) (fun w' f q1 q2 q3 q4 => ?_)
      · have q1' : (wI (sg E len) 84 p).2 = false := q1
        rw [if_neg (show ¬ (wI (sg E len) 84 p).2 = true by rw [q1']; simp)]
        exact fl 84 w' _ rfl f q2
      · have q1' : (wI (sg E len) 84 p).2 = true := q1
        rw [if_pos q1', if_pos (show 8 ≤ c.1 by omega)]
        exact XI.fail f (by omega) q3 rfl
      · have q1' : (wI (sg E len) 84 p).2 = true := q1
        rw [if_pos q1', if_neg (show ¬ 8 ≤ c.1 by omega), if_pos (show (0:Nat) = 0 from rfl)]
        exact bV_id ((X_man (h.rf f) (x.rdf f hn) gd (by omega) (wI_le hp).2 q4 q3).mono (fun w2 z => XI.tr f z))
    · rw [if_neg c2]
      have hb : ∀ w5, v_Rd_itemBy w5 (sg E len p) (sg E len (p + 1)) = nI 1 := fun w5 => by
        unfold v_Rd_itemBy
        rw [c1, if_pos (show nI 109 = (109 : Int32) from rfl), if_neg (show ¬ sg E len (p + 1) = (97 : Int32) from c2)]
        rfl
      refine X_itemA h x gd hp e e3 (k := 1) (by omega) hb _ (fun w' f q1 q2 => ⟨rfl, ?_⟩) (fun w' f q1 q2 q3 => by omega) (fun w' f q1 q2 q3 q4 => ?_)
      · have q1' : (wI (sg E len) 85 p).2 = false := q1
        rw [if_neg (show ¬ (wI (sg E len) 85 p).2 = true by rw [q1']; simp)]
        exact fl 85 w' _ rfl f q2
      · have q1' : (wI (sg E len) 85 p).2 = true := q1
        rw [if_pos q1', if_neg (show ¬ (1:Nat) = 0 by omega), if_pos (show (1:Nat) = 1 from rfl)]
        exact bV_id ((X_two (h.rf f) (x.rdf f hn) gd (by omega) (wI_le hp).2 q4 q3).mono (fun w2 z => XI.tr f z))
  · rw [if_neg c1]
    by_cases c2 : sg E len p = nI 112
    · rw [if_pos c2]
      have hb : ∀ w5, v_Rd_itemBy w5 (sg E len p) (sg E len (p + 1)) = nI 2 := fun w5 => by
        unfold v_Rd_itemBy
        rw [c2]
        rfl
      refine X_itemA h x gd hp e e3 (k := 2) (by omega) hb _ (fun w' f q1 q2 => ⟨rfl, ?_⟩) (fun w' f q1 q2 q3 => by omega) (fun w' f q1 q2 q3 q4 => ?_)
      · have q1' : (wI (sg E len) 86 p).2 = false := q1
        rw [if_neg (show ¬ (wI (sg E len) 86 p).2 = true by rw [q1']; simp)]
        exact fl 86 w' _ rfl f q2
      · have q1' : (wI (sg E len) 86 p).2 = true := q1
        rw [if_pos q1', if_neg (show ¬ (2:Nat) = 0 by omega), if_neg (show ¬ (2:Nat) = 1 by omega), if_pos (show (2:Nat) = 2 from rfl)]
        exact bV_id ((X_two (h.rf f) (x.rdf f hn) gd (by omega) (wI_le hp).2 q4 q3).mono (fun w2 z => XI.tr f z))
    · rw [if_neg c2]
      by_cases c3 : sg E len p = nI 119
      · rw [if_pos c3]
        have hb : ∀ w5, v_Rd_itemBy w5 (sg E len p) (sg E len (p + 1)) = nI 3 := fun w5 => by
          unfold v_Rd_itemBy
          rw [c3]
          rfl
        refine X_itemA h x gd hp e e3 (k := 3) (by omega) hb _ (fun w' f q1 q2 => ⟨rfl, ?_⟩) (fun w' f q1 q2 q3 => ⟨rfl, ?_⟩) (fun w' f q1 q2 q3 q4 => ?_)
        · have q1' : (wI (sg E len) 87 p).2 = false := q1
          rw [if_neg (show ¬ (wI (sg E len) 87 p).2 = true by rw [q1']; simp)]
          exact fl 87 w' _ rfl f q2
        · have q1' : (wI (sg E len) 87 p).2 = true := q1
          rw [if_pos q1', if_pos (show 30 ≤ c.2.1 by omega)]
          exact XI.fail f (by omega) q3 rfl
        · have q1' : (wI (sg E len) 87 p).2 = true := q1
          rw [if_pos q1', if_neg (show ¬ 30 ≤ c.2.1 by omega), if_neg (show ¬ (3:Nat) = 0 by omega), if_neg (show ¬ (3:Nat) = 1 by omega), if_neg (show ¬ (3:Nat) = 2 by omega), if_pos (show (3:Nat) = 3 from rfl)]
          exact bV_id ((X_wrd (h.rf f) (x.rdf f hn) gd (by omega) (wI_le hp).2 q4 q3).mono (fun w2 z => XI.tr f z))
      · rw [if_neg c3]
        have hb : ∀ w5, v_Rd_itemBy w5 (sg E len p) (sg E len (p + 1)) = nI 4 := fun w5 => by
          unfold v_Rd_itemBy
          rw [if_neg (show ¬ sg E len p = (109 : Int32) from c1), if_neg (show ¬ sg E len p = (112 : Int32) from c2), if_neg (show ¬ sg E len p = (119 : Int32) from c3)]
          rfl
        refine X_itemA h x gd hp e e3 (k := 4) (by omega) hb _ (fun w' f q1 q2 => ⟨rfl, ?_⟩) (fun w' f q1 q2 q3 => by omega) (fun w' f q1 q2 q3 q4 => ?_)
        · have q1' : (wI (sg E len) 88 p).2 = false := q1
          rw [if_neg (show ¬ (wI (sg E len) 88 p).2 = true by rw [q1']; simp)]
          exact fl 88 w' _ rfl f q2
        · have q1' : (wI (sg E len) 88 p).2 = true := q1
          rw [if_pos q1', if_neg (show ¬ (4:Nat) = 0 by omega), if_neg (show ¬ (4:Nat) = 1 by omega), if_neg (show ¬ (4:Nat) = 2 by omega), if_neg (show ¬ (4:Nat) = 3 by omega)]
          unfold u_Ct_hushWords
          have x5 := x.rdf f hn
          obtain ⟨⟨r1, r2, r3, r4⟩, x2⟩ := x5
          refine Ev.v ⟨f.fx.tr ((FX.rfl w').set (by omega)), by rw [rd_j (by omega), f.1 23 (by omega)], .inl ⟨_, rfl, by rw [rd_o (by omega)]; exact q3, by rw [rd_o (by omega)]; exact q4, ⟨⟨by rw [rd_j (by omega)]; exact r1, by rw [rd_s]; rfl, fun i hi => ?_, fun p hp => by have : p < 0 := hp; omega⟩, fun i hi => ?_⟩⟩⟩
          · rw [rd_o (by omega)]
            exact r3 i hi
          · rw [rd_o (by omega)]
            exact x2 i hi
