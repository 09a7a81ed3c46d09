/-! numbers, both sides -/
def exX (w : MW) (b v : Int32) : Option RT := if (w.1 52 1) = (w.1 52 2) then some (some (.int v), setI w 52 3 (w.1 52 2)) else if v < b then some (some (.int v), w) else some (some (.int v), setI w 52 3 (w.1 52 2))
theorem tn_2 {w : MW} {a m : Nat} {b v : Int32} : f_Rd_takeNumber_40 a (m + 1) w b v (nI 2) = exX w b v := by
  rw [f_Rd_takeNumber_40, if_pos (show (2 : Int32) ≤ nI 2 by decide)]
  rfl
theorem tn_n {w : MW} {s len q m t : Nat} {E : Nat → Int32} {b v : Int32} (h : RCx w s len E) (e : w.1 52 1 = nI q) (hq : q ≤ len) (ht : t < 2) (hd : dg (sg E len q) = none) : f_Rd_takeNumber_40 (35 + 2 * s) (m + 1) w b v (nI t) = exX w b v := by
  have h2 := h.2.1
  have hn : ¬ (2 : Int32) ≤ nI t := nI_ge (a := t) (b := 2) ht (by omega)
  have ed : v_Rd_isDigit w (sg E len q) = nI 0 := by
    rw [isD, hd]
    rfl
  rw [f_Rd_takeNumber_40, if_neg hn, grd_i (gd160 h e), e, X_asInt h (by omega), ed, if_pos (show nI 0 = (0 : Int32) from rfl)]
  unfold exX
  rw [e]
theorem tn_d {w : MW} {s len q m t d u : Nat} {E : Nat → Int32} {b : Int32} (h : RCx w s len E) (e : w.1 52 1 = nI q) (hq : q ≤ len) (ht : t < 2) (hd : dg (sg E len q) = some d) (hu : u < 100) : f_Rd_takeNumber_40 (35 + 2 * s) (m + 1) w b (nI u) (nI t) = f_Rd_takeNumber_40 (35 + 2 * s) m (setI w 52 1 (nI (q + 1))) b (nI (10 * u + d)) (nI (t + 1)) := by
  have h2 := h.2.1
  obtain ⟨d1, d2⟩ := dg_s hd
  have hn : ¬ (2 : Int32) ≤ nI t := nI_ge (a := t) (b := 2) ht (by omega)
  have ed : v_Rd_isDigit w (sg E len q) = nI 1 := by
    rw [isD, hd]
    rfl
  rw [f_Rd_takeNumber_40, if_neg hn, grd_i (gd160 h e), grd_i (gd160 h e), e, X_asInt h (by omega), ed, if_neg (show ¬ nI 1 = (0 : Int32) by decide), d1, nI_1, nI_1]
  have e1 : (10 : Int32) * nI u + nI (d + 48) - 48 = nI (10 * u + d) := by
    rw [k10, nI_mul, nI_add, k48', pk_sub (by omega)]
    congr 1
  rw [e1]
def XN (w' : MW) (v : Int32) (p : Nat) (r : Nat × Option Nat) : Prop := (∃ u, r.2 = some u ∧ u < 100 ∧ v = nI u ∧ w'.1 52 3 = -nI 1 ∧ w'.1 52 1 = nI r.1 ∧ w'.1 52 2 = nI (p + 1) ∧ r.1 ≤ 160) ∨ (r.2 = none ∧ r.1 ≤ 160 ∧ w'.1 52 3 = nI r.1)
theorem exX_n {w : MW} {q b v : Nat} (e1 : w.1 52 1 = nI q) (e2 : w.1 52 2 = nI q) : exX w (nI b) (nI v) = some (some (.int (nI v)), setI w 52 3 (nI q)) := by
  unfold exX
  rw [e1, e2, if_pos rfl]
theorem exX_y {w : MW} {q r b v : Nat} (e1 : w.1 52 1 = nI q) (e2 : w.1 52 2 = nI r) (h : r < q) (hq : q < 1000) (hv : v < 1000) (hb : b < 1000) : exX w (nI b) (nI v) = if v < b then some (some (.int (nI v)), w) else some (some (.int (nI v)), setI w 52 3 (nI r)) := by
  unfold exX
  rw [e1, e2]
  simp (disch := omega) only [k0, k1, k2, k3, k4, k5, k6, k7, k8, k9, k10, k12, k20, k30, k31, k40, k99, k160, ite_self, nI_add, nI_leI, nI_ltI, nI_eq, nI_clamp, nI_sub', nI_mul, vpb_n, eq_self, implies_true, grd_t, grd_i, if_pos, if_neg, bI_k, bV_k, bx0, bx1, mh0, mh1, rd_s, rd_o, rd_j, rd_2k, rdL_1k, ↓reduceIte, Bool.false_eq_true, Bool.true_eq_false, Nat.add_eq, Nat.zero_add, Nat.add_zero, not_true_eq_false, not_false_eq_true]
theorem X_num {w : MW} {s len p b : Nat} {E : Nat → Int32} (h : RCx w s len E) (hp : p ≤ len) (e : w.1 52 1 = nI p) (e3 : w.1 52 3 = -nI 1) (hb : b < 1000) :
    EI (f_Rd_takeNumber w (35 + 2 * s) (nI b)) (fun v w' => RDF w w' ∧ XN w' v p (tkN (sg E len) b p)) := by
  have hl := h.2.1
  have e3' : w.1 52 3 = -1 := e3
  have gd := gd160 h e
  unfold f_Rd_takeNumber
  have et : u_Rd_take w (35 + 2 * s) (32 : Int32) = _ := X_take h hp e (c := 32) (by omega)
  rw [if_pos e3', grd_i (fun _ => gd), et]
  unfold tkN
  by_cases c : sg E len p = nI 32
  · have hlt := sg_lt (by omega) c
    rw [if_pos c, if_pos c, rd_j (by omega), if_pos e3', rd_s]
    have f2 : RDF w (setI (setI w 52 1 (nI (p + 1))) 52 2 (nI (p + 1))) := (RDF.rfl w).set.set
    have h2 := h.rf f2
    have g1 : (setI (setI w 52 1 (nI (p + 1))) 52 2 (nI (p + 1))).1 52 1 = nI (p + 1) := by rw [rd_j (by omega), rd_s]
    have g2 : (setI (setI w 52 1 (nI (p + 1))) 52 2 (nI (p + 1))).1 52 2 = nI (p + 1) := rd_s
    have g3 : (setI (setI w 52 1 (nI (p + 1))) 52 2 (nI (p + 1))).1 52 3 = -nI 1 := by rw [rd_j (by omega), rd_j (by omega)]; exact e3
    show EI (f_Rd_takeNumber_40 (35 + 2 * s) (997 + 1 + 1 + 1) _ (nI b) (nI 0) (nI 0)) _
    generalize hw2 : setI (setI w 52 1 (nI (p + 1))) 52 2 (nI (p + 1)) = w2 at *
    cases hd : dg (sg E len (p + 1)) with
    | none =>
      rw [tn_n h2 g1 (by omega) (by omega) hd, exX_n g1 g2]
      exact Ev.i ⟨f2.set, .inr ⟨rfl, by show p + 1 ≤ 160; omega, rd_s⟩⟩
    | some d =>
      have hlt1 := dg_0 hd
      obtain ⟨d1, d2⟩ := dg_s hd
      rw [tn_d h2 g1 (by omega) (by omega) hd (by omega)]
      have f3 : RDF w (setI w2 52 1 (nI (p + 1 + 1))) := f2.set
      have h3 := h.rf f3
      have j1 : (setI w2 52 1 (nI (p + 1 + 1))).1 52 1 = nI (p + 2) := rd_s
      have j2 : (setI w2 52 1 (nI (p + 1 + 1))).1 52 2 = nI (p + 1) := by rw [rd_j (by omega)]; exact g2
      have j3 : (setI w2 52 1 (nI (p + 1 + 1))).1 52 3 = -nI 1 := by rw [rd_j (by omega)]; exact g3
      rw [show 10 * 0 + d = d by omega]
      generalize hw3 : setI w2 52 1 (nI (p + 1 + 1)) = w3 at *
      cases hd2 : dg (sg E len (p + 2)) with
      | none =>
        rw [tn_n h3 j1 (by omega) (by omega) hd2, exX_y j1 j2 (by omega) (by omega) (by omega) hb]
        show EI _ (fun v w' => RDF w w' ∧ XN w' v p (if d < b then (p + 2, some d) else (p + 1, none)))
        by_cases cb : d < b
        · rw [if_pos cb, if_pos cb]
          exact Ev.i ⟨f3, .inl ⟨d, rfl, by omega, rfl, j3, j1, j2, by show p + 2 ≤ 160; omega⟩⟩
        · rw [if_neg cb, if_neg cb]
          exact Ev.i ⟨f3.set, .inr ⟨rfl, by show p + 1 ≤ 160; omega, rd_s⟩⟩
      | some dd =>
        have hlt2 := dg_0 hd2
        obtain ⟨d3, d4⟩ := dg_s hd2
        rw [tn_d h3 j1 (by omega) (by omega) hd2 (by omega), tn_2]
        have f4 : RDF w (setI w3 52 1 (nI (p + 2 + 1))) := f3.set
        have l1 : (setI w3 52 1 (nI (p + 2 + 1))).1 52 1 = nI (p + 3) := rd_s
        have l2 : (setI w3 52 1 (nI (p + 2 + 1))).1 52 2 = nI (p + 1) := by rw [rd_j (by omega)]; exact j2
        have l3 : (setI w3 52 1 (nI (p + 2 + 1))).1 52 3 = -nI 1 := by rw [rd_j (by omega)]; exact j3
        rw [exX_y l1 l2 (by omega) (by omega) (by omega) hb]
        show EI _ (fun v w' => RDF w w' ∧ XN w' v p (if 10 * d + dd < b then (p + 3, some (10 * d + dd)) else (p + 1, none)))
        by_cases cb : 10 * d + dd < b
        · rw [if_pos cb, if_pos cb]
          exact Ev.i ⟨f4, .inl ⟨10 * d + dd, rfl, by omega, rfl, l3, l1, l2, by show p + 3 ≤ 160; omega⟩⟩
        · rw [if_neg cb, if_neg cb]
          exact Ev.i ⟨f4.set, .inr ⟨rfl, by show p + 1 ≤ 160; omega, rd_s⟩⟩
  · have hne : ¬ nI p = (-1 : Int32) := nI_ne_m1 (by omega)
    rw [if_neg c, if_neg c, rd_s, if_neg hne]
    exact Ev.i ⟨(RDF.rfl w).set, .inr ⟨rfl, by show p ≤ 160; omega, rd_s⟩⟩
theorem X_num0 {w : MW} {s q : Nat} {x : Int32} (e : w.1 52 3 = nI q) (hq : q ≤ 160) : f_Rd_takeNumber w (35 + 2 * s) x = some (some (.int (nI 0)), w) := by
  have hne : ¬ nI q = (-1 : Int32) := nI_ne_m1 (by omega)
  unfold f_Rd_takeNumber
  rw [e, if_neg hne]
  rfl
/-! the reference's numbers -/
def exM (w : MW) (i : Nat) (y v : Int32) (q : Int32) : Option RT := if (w.1 62 24) = q then some (some (.int (nI 0)), w) else (if (v_M_within (setI w 80 i v) v (nI 0) y) = nI 0 then some (some (.int (v_M_within (setI w 80 i v) v (nI 0) y)), setI (setI w 80 i v) 62 24 q) else some (some (.int (v_M_within (setI w 80 i v) v (nI 0) y)), setI w 80 i v))
theorem mn_2 {w : MW} {m i q u : Nat} {y : Int32} (hi : i < 3) (e : w.1 62 24 = nI (q + 2)) : f_M_number_20 (m + 1) w (nI i) (nI 0) y (nI q) (nI u) = exM w i y (nI u) (nI q) := by
  have e2 : (2 : Int32) ≤ nI (q + 2) - nI q := by
    rw [pk_sub (by omega), show q + 2 - q = 2 by omega]
    decide
  rw [f_M_number_20, e, if_pos e2, nI_clamp (by omega), grd_i (vpb_n hi (by omega))]
  unfold exM
  rw [e]
  rfl
theorem mn_n {w : MW} {s len m i q t u : Nat} {E : Nat → Int32} {y : Int32} (h : MCx w s len E) (hi : i < 3) (ht : t < 2) (hq : q + t ≤ len) (e : w.1 62 24 = nI (q + t)) (hd : dg (sg E len (q + t)) = none) : f_M_number_20 (m + 1) w (nI i) (nI 0) y (nI q) (nI u) = exM w i y (nI u) (nI q) := by
  obtain ⟨gd1, gd2⟩ := gdM h hq e
  have e2 : ¬ (2 : Int32) ≤ nI (q + t) - nI q := by
    rw [pk_sub (by omega), show q + t - q = t by omega]
    exact nI_ge (a := t) (b := 2) ht (by omega)
  rw [f_M_number_20, M_sign h hq e, grd_i gd1, grd_i gd2, grd_i gd1, grd_i gd2, grd_i gd1, grd_i gd2, e, if_neg e2, nI_clamp (by omega), grd_i (vpb_n hi (by omega))]
  unfold exM
  rw [e]
  unfold dg at hd
  by_cases c1 : sg E len (q + t) < nI 48
  · rw [if_pos (show sg E len (q + t) < 48 from c1)]
    rfl
  · rw [if_neg c1] at hd
    by_cases c2 : nI 57 < sg E len (q + t)
    · rw [if_neg (show ¬ sg E len (q + t) < 48 from c1), if_pos (show (57 : Int32) < sg E len (q + t) from c2)]
      rfl
    · rw [if_neg c2] at hd
      cases hd
theorem mn_d {w : MW} {s len m i q t u d : Nat} {E : Nat → Int32} {y : Int32} (h : MCx w s len E) (hi : i < 3) (ht : t < 2) (hq : q + t ≤ len) (e : w.1 62 24 = nI (q + t)) (hd : dg (sg E len (q + t)) = some d) (hu : u < 100) : f_M_number_20 (m + 1) w (nI i) (nI 0) y (nI q) (nI u) = f_M_number_20 m (setI w 62 24 (nI (q + t + 1))) (nI i) (nI 0) y (nI q) (nI (10 * u + d)) := by
  obtain ⟨gd1, gd2⟩ := gdM h hq e
  obtain ⟨d1, d2⟩ := dg_s hd
  have e2 : ¬ (2 : Int32) ≤ nI (q + t) - nI q := by
    rw [pk_sub (by omega), show q + t - q = t by omega]
    exact nI_ge (a := t) (b := 2) ht (by omega)
  have c1 : ¬ nI (d + 48) < (48 : Int32) := nI_nlt (a := d + 48) (b := 48) (by omega) (by omega)
  have c2 : ¬ (57 : Int32) < nI (d + 48) := nI_nlt (a := 57) (b := d + 48) (by omega) (by omega)
  have e1 : (10 : Int32) * nI u + nI (d + 48) - 48 = nI (10 * u + d) := by
    rw [k10, nI_mul, nI_add, k48', pk_sub (by omega)]
    congr 1
  rw [f_M_number_20, M_sign h hq e, d1, grd_i gd1, grd_i gd2, grd_i gd1, grd_i gd2, grd_i gd1, grd_i gd2, e, if_neg e2, if_neg c1, if_neg c2, e1, nI_1]
def MN (w w' : MW) (v : Int32) (i p : Nat) (r : Nat × Option Nat) : Prop := (∀ j, j ≠ i → w'.1 80 j = w.1 80 j) ∧ w'.1 62 24 = nI r.1 ∧ r.1 ≤ 160 ∧ ((∃ u, r.2 = some u ∧ u < 100 ∧ v = nI 1 ∧ w'.1 80 i = nI u) ∨ (r.2 = none ∧ v = nI 0))
theorem exM_n {w : MW} {i q : Nat} {y v : Int32} (e : w.1 62 24 = nI q) : exM w i y v (nI q) = some (some (.int (nI 0)), w) := by
  unfold exM
  rw [e, if_pos rfl]
theorem exM_y {w : MW} {i q r b u : Nat} {y : Int32} (e : w.1 62 24 = nI r) (h : q < r) (hr : r < 1000) (hy : y = nI b - nI 1) (hb : b < 1000) (hu : u < 1000) : exM w i y (nI u) (nI q) = if u < b then some (some (.int (nI 1)), setI w 80 i (nI u)) else some (some (.int (nI 0)), setI (setI w 80 i (nI u)) 62 24 (nI q)) := by
  unfold exM
  have hne : ¬ nI r = nI q := fun z => by
    have := (nI_eq (by omega) (by omega)).mp z
    omega
  rw [e, if_neg hne]
  by_cases c : u < b
  · have ew : v_M_within (setI w 80 i (nI u)) (nI u) (nI 0) y = nI 1 := wi_g (n := b) (by omega) hy c
    rw [ew, if_pos c, if_neg (fun q => n10.mp q)]
  · have ew : v_M_within (setI w 80 i (nI u)) (nI u) (nI 0) y = nI 0 := wi_b (n := b) (by omega) hy (.inr (nI_le (by omega) (by omega)))
    rw [ew, if_neg c, if_pos rfl]
theorem M_num {w : MW} {s len p b i : Nat} {E : Nat → Int32} {y : Int32} (h : MCx w s len E) (hp : p ≤ len) (e : w.1 62 24 = nI p) (hi : i < 3) (hy : y = nI b - nI 1) (hb : b < 1000) :
    EI (f_M_number w (nI i) (nI 0) y) (fun v w' => MFr w w' ∧ MN w w' v i p (tkN (sg E len) b p)) := by
  have hl := h.2.1
  obtain ⟨gd1, gd2⟩ := gdM h hp e
  obtain ⟨v1, v2⟩ := M_is (c := 32) h hp e
  have v1' : v_M_is w (32 : Int32) = if sg E len p = nI 32 then nI 1 else nI 0 := v1
  have v2' : u_M_is w (32 : Int32) = if sg E len p = nI 32 then setI w 62 24 (nI (p + 1)) else w := v2
  unfold f_M_number
  rw [grd_i gd1, grd_i gd2, v1', v2']
  unfold tkN
  by_cases c : sg E len p = nI 32
  · have hlt := sg_lt (by omega) c
    rw [if_pos c, if_pos c, if_pos c, if_neg (show ¬ nI 1 = (0 : Int32) by decide), rd_s]
    have f2 : MFr w (setI w 62 24 (nI (p + 1))) := (MFr.rfl w).set (.inl ⟨rfl, rfl⟩)
    have h2 := h.mf f2
    have g1 : (setI w 62 24 (nI (p + 1))).1 62 24 = nI (p + 1 + 0) := rd_s
    have g8 : (setI w 62 24 (nI (p + 1))).1 80 = w.1 80 := rd_o (by omega)
    show EI (f_M_number_20 (997 + 1 + 1 + 1) _ (nI i) (nI 0) y (nI (p + 1)) (nI 0)) _
    generalize hw2 : setI w 62 24 (nI (p + 1)) = w2 at *
    cases hd : dg (sg E len (p + 1)) with
    | none =>
      rw [mn_n h2 hi (t := 0) (by omega) (by omega) g1 hd, exM_n g1]
      exact Ev.i ⟨f2, fun j _ => by rw [g8], g1, by show p + 1 ≤ 160; omega, .inr ⟨rfl, rfl⟩⟩
    | some d =>
      have hlt1 := dg_0 hd
      obtain ⟨d1, d2⟩ := dg_s hd
      rw [mn_d h2 hi (t := 0) (by omega) (by omega) g1 hd (by omega)]
      have f3 : MFr w (setI w2 62 24 (nI (p + 1 + 0 + 1))) := f2.set (.inl ⟨rfl, rfl⟩)
      have h3 := h.mf f3
      have j1 : (setI w2 62 24 (nI (p + 1 + 0 + 1))).1 62 24 = nI (p + 1 + 1) := rd_s
      have j8 : (setI w2 62 24 (nI (p + 1 + 0 + 1))).1 80 = w.1 80 := by rw [rd_o (by omega)]; exact g8
      rw [show 10 * 0 + d = d by omega]
      generalize hw3 : setI w2 62 24 (nI (p + 1 + 0 + 1)) = w3 at *
      cases hd2 : dg (sg E len (p + 2)) with
      | none =>
        rw [mn_n h3 hi (t := 1) (by omega) (by omega) j1 hd2, exM_y j1 (by omega) (by omega) hy hb (by omega)]
        show EI _ (fun v w' => MFr w w' ∧ MN w w' v i p (if d < b then (p + 2, some d) else (p + 1, none)))
        by_cases cb : d < b
        · rw [if_pos cb, if_pos cb]
          exact Ev.i ⟨f3.set (.inr rfl), fun j q => by rw [rd_j q, j8], by rw [rd_o (by omega)]; exact j1, by show p + 2 ≤ 160; omega, .inl ⟨d, rfl, by omega, rfl, rd_s⟩⟩
        · rw [if_neg cb, if_neg cb]
          exact Ev.i ⟨(f3.set (.inr rfl)).set (.inl ⟨rfl, rfl⟩), fun j q => by rw [rd_o (by omega), rd_j q, j8], rd_s, by show p + 1 ≤ 160; omega, .inr ⟨rfl, rfl⟩⟩
      | some dd =>
        have hlt2 := dg_0 hd2
        obtain ⟨d3, d4⟩ := dg_s hd2
        rw [mn_d h3 hi (t := 1) (by omega) (by omega) j1 hd2 (by omega)]
        have f4 : MFr w (setI w3 62 24 (nI (p + 1 + 1 + 1))) := f3.set (.inl ⟨rfl, rfl⟩)
        have l1 : (setI w3 62 24 (nI (p + 1 + 1 + 1))).1 62 24 = nI (p + 1 + 2) := rd_s
        have l8 : (setI w3 62 24 (nI (p + 1 + 1 + 1))).1 80 = w.1 80 := by rw [rd_o (by omega)]; exact j8
        rw [mn_2 hi l1, exM_y l1 (by omega) (by omega) hy hb (by omega)]
        show EI _ (fun v w' => MFr w w' ∧ MN w w' v i p (if 10 * d + dd < b then (p + 3, some (10 * d + dd)) else (p + 1, none)))
        by_cases cb : 10 * d + dd < b
        · rw [if_pos cb, if_pos cb]
          exact Ev.i ⟨f4.set (.inr rfl), fun j q => by rw [rd_j q, l8], by rw [rd_o (by omega)]; exact l1, by show p + 3 ≤ 160; omega, .inl ⟨10 * d + dd, rfl, by omega, rfl, rd_s⟩⟩
        · rw [if_neg cb, if_neg cb]
          exact Ev.i ⟨(f4.set (.inr rfl)).set (.inl ⟨rfl, rfl⟩), fun j q => by rw [rd_o (by omega), rd_j q, l8], rd_s, by show p + 1 ≤ 160; omega, .inr ⟨rfl, rfl⟩⟩
  · rw [if_neg c, if_neg c, if_neg c, if_pos (show nI 0 = (0 : Int32) from rfl)]
    exact Ev.i ⟨MFr.rfl w, fun _ _ => rfl, e, by show p ≤ 160; omega, .inr ⟨rfl, rfl⟩⟩
theorem tkN_le {E : Nat → Int32} {len b p : Nat} (hp : p ≤ len) : p ≤ (tkN (sg E len) b p).1 ∧ (tkN (sg E len) b p).1 ≤ len ∧ ∀ u, (tkN (sg E len) b p).2 = some u → u < b := by
  unfold tkN
  by_cases c : sg E len p = nI 32
  · have hlt := sg_lt (by omega) c
    rw [if_pos c]
    cases hd : dg (sg E len (p + 1)) with
    | none => exact ⟨by show p ≤ p + 1; omega, hlt, fun u h => by cases h⟩
    | some d =>
      have hlt1 := dg_0 hd
      cases hd2 : dg (sg E len (p + 2)) with
      | none =>
        show p ≤ (if d < b then (p + 2, some d) else (p + 1, none)).1 ∧ _ ∧ _
        by_cases cb : d < b
        · simp only [if_pos cb]
          exact ⟨by omega, by omega, fun u h => by cases h; exact cb⟩
        · simp only [if_neg cb]
          exact ⟨by omega, by omega, fun u h => by cases h⟩
      | some dd =>
        have hlt2 := dg_0 hd2
        show p ≤ (if 10 * d + dd < b then (p + 3, some (10 * d + dd)) else (p + 1, none)).1 ∧ _ ∧ _
        by_cases cb : 10 * d + dd < b
        · simp only [if_pos cb]
          exact ⟨by omega, by omega, fun u h => by cases h; exact cb⟩
        · simp only [if_neg cb]
          exact ⟨by omega, by omega, fun u h => by cases h⟩
  · rw [if_neg c]
    exact ⟨Nat.le_refl _, hp, fun u h => by cases h⟩
