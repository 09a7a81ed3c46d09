/-! items: the reference -/
def MI (w w' : MW) (v : Int32) (r : Nat × Option CS) : Prop := GM w w' ∧ w'.1 76 = w.1 76 ∧ w'.1 62 12 = w.1 62 12 ∧ w'.1 62 23 = w.1 62 23 ∧ w'.1 62 24 = nI r.1 ∧ ((∃ c, r.2 = some c ∧ v = nI 1 ∧ M3 w' c) ∨ (r.2 = none ∧ v = nI 0))
theorem MFr.gm {w w' : MW} (h : MFr w w') : GM w w' := ⟨fun a j q _ _ => h.1 a j (by unfold Sc at q; omega) (by unfold Sc at q; omega), fun a q => by funext j; exact h.1 a j (by omega) (by omega), h.2⟩
theorem MFr.k76 {w w' : MW} (h : MFr w w') : w'.1 76 = w.1 76 := by funext j; exact h.1 76 j (by omega) (by omega)
theorem M3.mf {w w' : MW} {c : CS} (h : M3 w c) (f : MFr w w') : M3 w' c := by
  obtain ⟨⟨r1, r2, r3, r4⟩, x⟩ := h
  refine ⟨⟨by rw [f.1 62 3 (by omega) (by omega)]; exact r1, by rw [f.1 62 10 (by omega) (by omega)]; exact r2, fun i hi => ?_, fun p hp => by rw [f.1 72 _ (by omega) (by omega)]; exact r4 p hp⟩, fun i hi => ?_⟩
  · rw [f.1 66 _ (by omega) (by omega), f.1 67 _ (by omega) (by omega), f.1 68 _ (by omega) (by omega), f.1 71 _ (by omega) (by omega)]
    exact r3 i hi
  · rw [f.1 69 _ (by omega) (by omega), f.1 70 _ (by omega) (by omega)]
    exact x i hi
theorem MI.fail {w w' : MW} {q : Nat} {o : Option CS} (f : MFr w w') (e : w'.1 62 24 = nI q) (ho : o = none) : MI w w' (nI 0) (q, o) := ⟨f.gm, f.k76, f.1 62 12 (by omega) (by omega), f.1 62 23 (by omega) (by omega), e, .inr ⟨ho, rfl⟩⟩
theorem MI.tr {w w1 w2 : MW} {v : Int32} {r : Nat × Option CS} (f : MFr w w1) (h : MI w1 w2 v r) : MI w w2 v r := by
  obtain ⟨h1, h2, h3, h4, h5⟩ := h
  exact ⟨f.gm.tr h1, by rw [h2, f.k76], by rw [h3, f.1 62 12 (by omega) (by omega)], by rw [h4, f.1 62 23 (by omega) (by omega)], h5⟩
theorem M_man3 {w : MW} {s len p : Nat} {E : Nat → Int32} {c : CS} (h : MCx w s len E) (m : M3 w c) (gd : GD c) (hn : c.1 < 8) (hp : p ≤ len) (e : w.1 62 24 = nI p) :
    EI (bI (f_M_number w (0 : Int32) (0 : Int32) (6 : Int32)) (fun v13 w13 => if v13 = 0 then (some (some (.int (0 : Int32)), w13)) else (bI (f_M_number w13 (1 : Int32) (0 : Int32) (9 : Int32)) (fun v16 w16 => if v16 = 0 then (some (some (.int (0 : Int32)), w16)) else (bI (f_M_number w16 (2 : Int32) (0 : Int32) (2 : Int32)) (fun v19 w19 => if v19 = 0 then (some (some (.int (0 : Int32)), w19)) else (bI (f_M_newMan w19 (w19.1 80 (0 : Int32).toNatClampNeg) (w19.1 80 (1 : Int32).toNatClampNeg) (w19.1 80 (2 : Int32).toNatClampNeg)) (fun _ w21 => some (some (.int (1 : Int32)), w21)))))))))
      (fun v w' => MI w w' v (manI (sg E len) c p)) := by
  have hl := h.2.1
  unfold manI
  refine Ev.bI (M_num h hp e (i := 0) (b := 7) (y := 6) (by omega) (by decide) (by omega)) (fun v1 w1 h1 => ?_)
  obtain ⟨f1, n0, n1, n2, n3⟩ := h1
  obtain ⟨t1, t2, t3⟩ := tkN_le (E := E) (len := len) (b := 7) hp
  generalize hr1 : tkN (sg E len) 7 p = r1 at *
  rcases n3 with ⟨k, a1, a2, rfl, a3⟩ | ⟨a1, rfl⟩
  case inr =>
    rw [if_pos (show nI 0 = (0 : Int32) from rfl), if_pos a1]
    exact Ev.i (MI.fail f1 n1 rfl)
  rw [if_neg (show ¬ nI 1 = (0 : Int32) by decide), if_neg (show ¬ r1.2 = none by rw [a1]; simp)]
  have h1 := h.mf f1
  refine Ev.bI (M_num h1 t2 n1 (i := 1) (b := 10) (y := 9) (by omega) (by decide) (by omega)) (fun v2 w2 h2 => ?_)
  obtain ⟨f2, m0, m1, m2, m3⟩ := h2
  obtain ⟨u1, u2, u3⟩ := tkN_le (E := E) (len := len) (b := 10) t2
  generalize hr2 : tkN (sg E len) 10 r1.1 = r2 at *
  rcases m3 with ⟨a, b1, b2, rfl, b3⟩ | ⟨b1, rfl⟩
  case inr =>
    rw [if_pos (show nI 0 = (0 : Int32) from rfl), if_pos b1]
    exact Ev.i (MI.fail (f1.tr f2) m1 rfl)
  rw [if_neg (show ¬ nI 1 = (0 : Int32) by decide), if_neg (show ¬ r2.2 = none by rw [b1]; simp)]
  have h2 := h1.mf f2
  refine Ev.bI (M_num h2 u2 m1 (i := 2) (b := 3) (y := 2) (by omega) (by decide) (by omega)) (fun v3 w3 h3 => ?_)
  obtain ⟨f3, o0, o1, o2, o3⟩ := h3
  generalize hr3 : tkN (sg E len) 3 r2.1 = r3 at *
  have f123 := (f1.tr f2).tr f3
  rcases o3 with ⟨f, c1, c2, rfl, c3⟩ | ⟨c1, rfl⟩
  case inr =>
    rw [if_pos (show nI 0 = (0 : Int32) from rfl), if_pos c1]
    exact Ev.i (MI.fail f123 o1 rfl)
  rw [if_neg (show ¬ nI 1 = (0 : Int32) by decide), if_neg (show ¬ r3.2 = none by rw [c1]; simp)]
  have e0 : w3.1 80 (0 : Int32).toNatClampNeg = nI k := by
    show w3.1 80 0 = nI k
    rw [o0 0 (by omega), m0 0 (by omega)]
    exact a3
  have e1 : w3.1 80 (1 : Int32).toNatClampNeg = nI a := by
    show w3.1 80 1 = nI a
    rw [o0 1 (by omega)]
    exact b3
  have e2 : w3.1 80 (2 : Int32).toNatClampNeg = nI f := c3
  have m3' := m.mf f123
  rw [e0, e1, e2, a1, b1, c1]
  refine Ev.bI (M_newMan m3'.1 m3'.2 gd.2.1 hn k a f) (fun v4 w4 h4 => ?_)
  obtain ⟨y0, y1, y2, y3, y4, y5, y6, y7⟩ := h4
  refine Ev.i ⟨f123.gm.tr y6, by rw [y7, f123.k76], by rw [y3, f123.1 62 12 (by omega) (by omega)], by rw [y4, f123.1 62 23 (by omega) (by omega)], by rw [y5]; exact o1, .inl ⟨_, rfl, rfl, y1, y2⟩⟩
theorem M_st0 {w : MW} {x : Int32} : f_M_stands w x (0 : Int32) = some (some (.int (0 : Int32)), setI w 62 24 x) := by
  unfold f_M_stands
  rw [if_pos rfl, grd_i (.inl rfl)]
theorem M_st1 {w : MW} {x : Int32} : f_M_stands w x (1 : Int32) = some (some (.int (1 : Int32)), w) := by
  unfold f_M_stands
  rw [if_neg (by decide), grd_i (.inr rfl)]
theorem M_two {w : MW} {s len p b : Nat} {E : Nat → Int32} {c : CS} (h : MCx w s len E) (m : M3 w c) (gd : GD c) (hb : b < 2) (hp : p ≤ len) (e : w.1 62 24 = nI p) :
    EI (f_M_two w (nI b)) (fun v w' => MI w w' v (twoI (sg E len) c b p)) := by
  have hl := h.2.1
  have hn := gd.1.1
  unfold f_M_two twoI
  have ey : w.1 62 3 - 1 = nI c.1 - nI 1 := by
    rw [m.1.1]
    rfl
  refine Ev.bI (M_num h hp e (i := 0) (b := c.1) (by omega) ey (by omega)) (fun v1 w1 h1 => ?_)
  obtain ⟨f1, n0, n1, n2, n3⟩ := h1
  obtain ⟨t1, t2, t3⟩ := tkN_le (E := E) (len := len) (b := c.1) hp
  generalize hr1 : tkN (sg E len) c.1 p = r1 at *
  rcases n3 with ⟨i, a1, a2, rfl, a3⟩ | ⟨a1, rfl⟩
  case inr =>
    rw [if_pos (show nI 0 = (0 : Int32) from rfl), if_pos a1]
    exact Ev.i (MI.fail f1 n1 rfl)
  rw [if_neg (show ¬ nI 1 = (0 : Int32) by decide), if_neg (show ¬ r1.2 = none by rw [a1]; simp)]
  have h1 := h.mf f1
  have mm1 := m.mf f1
  have ey1 : w1.1 62 3 - 1 = nI c.1 - nI 1 := by
    rw [mm1.1.1]
    rfl
  refine Ev.bI (M_num h1 t2 n1 (i := 1) (b := c.1) (by omega) ey1 (by omega)) (fun v2 w2 h2 => ?_)
  obtain ⟨f2, m0, m1, m2, m3⟩ := h2
  obtain ⟨u1, u2, u3⟩ := tkN_le (E := E) (len := len) (b := c.1) t2
  generalize hr2 : tkN (sg E len) c.1 r1.1 = r2 at *
  have f12 := f1.tr f2
  rcases m3 with ⟨j, b1, b2, rfl, b3⟩ | ⟨b1, rfl⟩
  case inr =>
    rw [if_pos (show nI 0 = (0 : Int32) from rfl), if_pos b1]
    exact Ev.i (MI.fail f12 m1 rfl)
  rw [if_neg (show ¬ nI 1 = (0 : Int32) by decide), if_neg (show ¬ r2.2 = none by rw [b1]; simp)]
  have e0 : w2.1 80 (0 : Int32).toNatClampNeg = nI i := by
    show w2.1 80 0 = nI i
    rw [m0 0 (by omega)]
    exact a3
  have e1 : w2.1 80 (1 : Int32).toNatClampNeg = nI j := b3
  have m12 := m.mf f12
  have hi := t3 i a1
  have hj := u3 j b1
  have en : w1.1 62 24 + 1 = nI (r1.1 + 1) := by
    rw [n1, nI_1]
  rw [e0, e1, en, a1, b1]
  by_cases q : i = j
  · subst q
    rw [if_pos rfl, if_pos rfl, M_st0, bI_k]
    exact Ev.i (MI.fail (f12.set (.inl ⟨rfl, rfl⟩)) rd_s rfl)
  · have qn : ¬ nI i = nI j := fun z => q ((nI_eq (by omega) (by omega)).mp z)
    rw [if_neg qn, if_neg (show ¬ (some i).getD 0 = (some j).getD 0 from q), M_st1, bI_k, if_neg (show ¬ (1 : Int32) = 0 by decide)]
    rw [e0, e1, grd_i (vpb_n (by omega) (by omega)), grd_i (fun _ => vpb_n (by omega) (by omega)), grd_i (fun _ => vpb_n (by omega) (by omega))]
    obtain ⟨y1, y2, y3, y4⟩ := M_link (b := b) m12.1 m12.2 hn hi hj q hb
    refine Ev.i ⟨f12.gm.tr y4, by rw [y3 76 (by omega), f12.k76], by rw [y3 62 (by omega), f12.1 62 12 (by omega) (by omega)], by rw [y3 62 (by omega), f12.1 62 23 (by omega) (by omega)], by rw [y3 62 (by omega)]; exact m1, .inl ⟨_, rfl, rfl, y1, y2⟩⟩
theorem M_w3 {w : MW} {s len p a t : Nat} {E : Nat → Int32} (h : MCx w s len E) (hp : p ≤ len) (e : w.1 62 24 = nI p) (ha : 84 ≤ a) (ha2 : a < 89) (ht : t < 2) :
    EI (f_M_word_3 w a (nI t)) (fun v w' => MFr w w' ∧ (((wI (sg E len) a p).2 = false ∧ v = nI 0 ∧ w'.1 62 24 = nI (wI (sg E len) a p).1) ∨ ((wI (sg E len) a p).2 = true ∧ t = 0 ∧ v = nI 0 ∧ w'.1 62 24 = nI p) ∨ ((wI (sg E len) a p).2 = true ∧ t = 1 ∧ v = nI 1 ∧ w'.1 62 24 = nI (wI (sg E len) a p).1))) := by
  unfold f_M_word_3
  refine Ev.bI (M_word h hp e ha ha2) (fun v w1 h1 => ?_)
  obtain ⟨rfl, h2, h3, h4⟩ := h1
  unfold wI
  cases hq : (wdN (sg E len) (TX a) (tLen a) 0 p).2
  · rw [if_neg (show ¬ false = true by simp), if_pos (show nI 0 = (0 : Int32) from rfl), if_pos (show nI 0 = (0 : Int32) from rfl)]
    exact Ev.i ⟨h3, .inl ⟨rfl, rfl, h2⟩⟩
  · rw [if_pos (show true = true from rfl), if_neg (show ¬ nI 1 = (0 : Int32) by decide)]
    rcases (show t = 0 ∨ t = 1 by omega) with rfl | rfl
    · rw [if_pos (show nI 0 = (0 : Int32) from rfl), if_neg (show ¬ nI 1 = (0 : Int32) by decide), if_pos (show nI 0 = (0 : Int32) from rfl)]
      exact Ev.i ⟨h3.set (.inl ⟨rfl, rfl⟩), .inr (.inl ⟨rfl, rfl, rfl, by rw [rd_s]; exact e⟩)⟩
    · rw [if_neg (show ¬ nI 1 = (0 : Int32) by decide), if_neg (show ¬ nI 1 = (0 : Int32) by decide), if_neg (show ¬ nI 1 = (0 : Int32) by decide)]
      exact Ev.i ⟨h3, .inr (.inr ⟨rfl, rfl, rfl, h2⟩)⟩
