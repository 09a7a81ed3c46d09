/-! items: the reference's whole -/
def manP (g : Nat → Int32) (c : CS) (p : Nat) : Nat × Option CS := if (wI g 84 p).2 = true then (if 8 ≤ c.1 then (p, none) else manI g c (wI g 84 p).1) else ((wI g 84 p).1, none)
theorem M_manp {w : MW} {s len p t : Nat} {E : Nat → Int32} {c : CS} (h : MCx w s len E) (m : M3 w c) (gd : GD c) (ht : t < 2) (ht0 : t = 0 → 8 ≤ c.1) (ht1 : t = 1 → c.1 < 8) (hp : p ≤ len) (e : w.1 62 24 = nI p) :
    EI (bI (f_M_word_3 w 84 (nI t)) (fun v10 w10 => if v10 = 0 then (some (some (.int (0 : Int32)), w10)) else (bI (f_M_number w10 (0 : Int32) (0 : Int32) (6 : Int32)) (fun v13 w13 => if v13 = 0 then (some (some (.int (0 : Int32)), w13)) else (bI (f_M_number w13 (1 : Int32) (0 : Int32) (9 : Int32)) (fun v16 w16 => if v16 = 0 then (some (some (.int (0 : Int32)), w16)) else (bI (f_M_number w16 (2 : Int32) (0 : Int32) (2 : Int32)) (fun v19 w19 => if v19 = 0 then (some (some (.int (0 : Int32)), w19)) else (bI (f_M_newMan w19 (w19.1 80 (0 : Int32).toNatClampNeg) (w19.1 80 (1 : Int32).toNatClampNeg) (w19.1 80 (2 : Int32).toNatClampNeg)) (fun _ w21 => some (some (.int (1 : Int32)), w21)))))))))))
      (fun v w' => MI w w' v (manP (sg E len) c p)) := by
  refine Ev.bI (M_w3 h hp e (a := 84) (by omega) (by omega) ht) (fun v1 w1 h1 => ?_)
  obtain ⟨f, hx⟩ := h1
  unfold manP
  rcases hx with ⟨q1, rfl, q2⟩ | ⟨q1, rfl, rfl, q2⟩ | ⟨q1, rfl, rfl, q2⟩
  · rw [if_pos (show nI 0 = (0 : Int32) from rfl), if_neg (show ¬ (wI (sg E len) 84 p).2 = true by rw [q1]; simp)]
    exact Ev.i (MI.fail f q2 rfl)
  · rw [if_pos (show nI 0 = (0 : Int32) from rfl), if_pos q1, if_pos (ht0 rfl)]
    exact Ev.i (MI.fail f q2 rfl)
  · have h8 := ht1 rfl
    rw [if_neg (show ¬ nI 1 = (0 : Int32) by decide), if_pos q1, if_neg (show ¬ 8 ≤ c.1 by omega)]
    exact (M_man3 (h.mf f) (m.mf f) gd h8 (wI_le hp).2 q2).mono (fun v w2 z => MI.tr f z)
theorem M_wrd3 {w : MW} {s len p t : Nat} {E : Nat → Int32} {c : CS} (h : MCx w s len E) (m : M3 w c) (gd : GD c) (ht : t < 2) (ht0 : t = 0 → 30 ≤ c.2.1) (ht1 : t = 1 → c.2.1 < 30) (hp : p ≤ len) (e : w.1 62 24 = nI p) :
    EI (bI (f_M_word_3 w 87 (nI t)) (fun v93 w93 => if v93 = 0 then (some (some (.int (0 : Int32)), w93)) else (bI (f_M_number w93 (0 : Int32) (0 : Int32) (39 : Int32)) (fun v96 w96 => if v96 = 0 then (some (some (.int (0 : Int32)), w96)) else (grd (vpb (w96.1 62 10) 30 = true) (some (some (.int (1 : Int32)), setI (setI w96 62 10 ((w96.1 62 10) + 1)) 72 (w96.1 62 10).toNatClampNeg ((setI w96 62 10 ((w96.1 62 10) + 1)).1 80 (0 : Int32).toNatClampNeg))))))))
      (fun v w' => MI w w' v (if (wI (sg E len) 87 p).2 = true then (if 30 ≤ c.2.1 then (p, none) else wrdI (sg E len) c (wI (sg E len) 87 p).1) else ((wI (sg E len) 87 p).1, none))) := by
  have hl := h.2.1
  have hL := gd.1.2.1
  refine Ev.bI (M_w3 h hp e (a := 87) (by omega) (by omega) ht) (fun v1 w1 h1 => ?_)
  obtain ⟨f, hx⟩ := h1
  rcases hx with ⟨q1, rfl, q2⟩ | ⟨q1, rfl, rfl, q2⟩ | ⟨q1, rfl, rfl, q2⟩
  · rw [if_pos (show nI 0 = (0 : Int32) from rfl), if_neg (show ¬ (wI (sg E len) 87 p).2 = true by rw [q1]; simp)]
    exact Ev.i (MI.fail f q2 rfl)
  · rw [if_pos (show nI 0 = (0 : Int32) from rfl), if_pos q1, if_pos (ht0 rfl)]
    exact Ev.i (MI.fail f q2 rfl)
  · have h30 := ht1 rfl
    rw [if_neg (show ¬ nI 1 = (0 : Int32) by decide), if_pos q1, if_neg (show ¬ 30 ≤ c.2.1 by omega)]
    unfold wrdI
    refine Ev.bI (M_num (h.mf f) (wI_le hp).2 q2 (i := 0) (b := 40) (y := 39) (by omega) (by decide) (by omega)) (fun v2 w2 h2 => ?_)
    obtain ⟨f2, n0, n1, n2, n3⟩ := h2
    generalize hr2 : tkN (sg E len) 40 (wI (sg E len) 87 p).1 = r2 at *
    have f12 := f.tr f2
    rcases n3 with ⟨u, a1, a2, rfl, a3⟩ | ⟨a1, rfl⟩
    case inr =>
      rw [if_pos (show nI 0 = (0 : Int32) from rfl), if_pos a1]
      exact Ev.i (MI.fail f12 n1 rfl)
    have m2 := m.mf f12
    obtain ⟨⟨r1, r2', r3, r4⟩, mb⟩ := m2
    rw [if_neg (show ¬ nI 1 = (0 : Int32) by decide), if_neg (show ¬ r2.2 = none by rw [a1]; simp), r2', grd_i (vpb_n h30 (by omega)), nI_1, nI_clamp (by omega), a1]
    have e80 : (setI w2 62 10 (nI (c.2.1 + 1))).1 80 (0 : Int32).toNatClampNeg = nI u := by
      show (setI w2 62 10 (nI (c.2.1 + 1))).1 80 0 = nI u
      rw [rd_o (by omega)]
      exact a3
    rw [e80]
    refine Ev.i ⟨(f12.gm.set (.inr ⟨rfl, by omega⟩)).set (.inl (by omega)), ?_, ?_, ?_, ?_, .inl ⟨_, rfl, rfl, ⟨⟨?_, ?_, ?_, ?_⟩, ?_⟩⟩⟩
    · rw [rd_o (by omega), rd_o (by omega), f12.k76]
    · rw [rd_o (by omega), rd_j (by omega), f12.1 62 12 (by omega) (by omega)]
    · rw [rd_o (by omega), rd_j (by omega), f12.1 62 23 (by omega) (by omega)]
    · rw [rd_o (by omega), rd_j (by omega)]
      exact n1
    · rw [rd_o (by omega), rd_j (by omega)]
      exact r1
    · rw [rd_o (by omega), rd_s]
      rfl
    · intro i hi
      rw [rd_o (by omega), rd_o (by omega), rd_o (by omega), rd_o (by omega), rd_o (by omega), rd_o (by omega), rd_o (by omega), rd_o (by omega)]
      exact r3 i hi
    · intro q hq
      have hq' : q < c.2.1 + 1 := hq
      show (setI (setI w2 62 10 (nI (c.2.1 + 1))) 72 c.2.1 (nI u)).1 72 q = upf c.2.2.2.2.2.2.1 c.2.1 (nI u) q
      unfold upf
      by_cases z : q = c.2.1
      · rw [if_pos z, z, rd_s]
      · rw [if_neg z, rd_j (by omega), rd_o (by omega)]
        exact r4 q (by omega)
    · intro i hi
      rw [rd_o (by omega), rd_o (by omega), rd_o (by omega), rd_o (by omega)]
      exact mb i hi
theorem wI_84 {g : Nat → Int32} {p : Nat} (h1 : g p = nI 109) (h2 : ¬ g (p + 1) = nI 97) : wI g 84 p = (p + 1, false) := by
  show (if g p = nI 109 then (if g (p + 1) = nI 97 then _ else (p + 1, false)) else (p, false)) = _
  rw [if_pos h1, if_neg h2]
theorem wI_85 {g : Nat → Int32} {p : Nat} (h1 : g p = nI 109) (h2 : ¬ g (p + 1) = nI 101) : wI g 85 p = (p + 1, false) := by
  show (if g p = nI 109 then (if g (p + 1) = nI 101 then _ else (p + 1, false)) else (p, false)) = _
  rw [if_pos h1, if_neg h2]
theorem wI_88 {g : Nat → Int32} {p : Nat} (h1 : ¬ g p = nI 104) : wI g 88 p = (p, false) := by
  show (if g p = nI 104 then _ else (p, false)) = _
  rw [if_neg h1]
