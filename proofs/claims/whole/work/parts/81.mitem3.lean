/-! items: the reference of an item -/
theorem itN_m {g : Nat → Int32} {c : CS} {p : Nat} (h1 : g p = nI 109) (h2 : ¬ g (p + 1) = nI 101) : itN g c p = manP g c p := by
  unfold itN manP
  rw [if_pos h1]
  by_cases q : g (p + 1) = nI 97
  · rw [if_pos q]
  · rw [if_neg q, wI_84 h1 q, wI_85 h1 h2, if_neg (by simp), if_neg (by simp)]
theorem M_item {w : MW} {s len p : Nat} {E : Nat → Int32} {c : CS} (h : MCx w s len E) (m : M3 w c) (gd : GD c) (hp : p ≤ len) (e : w.1 62 24 = nI p) :
    EI (f_M_item w) (fun v w' => MI w w' v (itN (sg E len) c p)) := by
  have hl := h.2.1
  have hn := gd.1.1
  have hL := gd.1.2.1
  have hs := h.1
  obtain ⟨g1, g2⟩ := gdM h hp e
  have ne : ∀ a b, a < 1000 → b < 1000 → a ≠ b → sg E len p = nI a → ¬ sg E len p = nI b := fun a b h1 h2 h3 z1 z2 => h3 ((nI_eq (by omega) (by omega)).mp (z1.symm.trans z2))
  have n3 : w.1 62 3 = nI c.1 := m.1.1
  have n10 : w.1 62 10 = nI c.2.1 := m.1.2.1
  have r4 : w.1 64 (w.1 62 23).toNatClampNeg = nI len := by
    rw [h.2.2.1, nI_clamp (by omega)]
    exact h.2.2.2.1
  have k8' : (8 : Int32) = nI 8 := by decide
  have k30 : (30 : Int32) = nI 30 := by decide
  have i8 : ((8 : Int32) ≤ nI c.1) ↔ 8 ≤ c.1 := by
    rw [k8']
    exact ⟨fun z => Decidable.byContradiction fun q => by
      have := nI_lt (a := c.1) (b := 8) (by omega) (by omega)
      exact absurd z (Int32.not_le.mpr this), fun z => nI_le z (by omega)⟩
  have i30 : ((30 : Int32) ≤ nI c.2.1) ↔ 30 ≤ c.2.1 := by
    rw [k30]
    exact ⟨fun z => Decidable.byContradiction fun q => by
      have := nI_lt (a := c.2.1) (b := 30) (by omega) (by omega)
      exact absurd z (Int32.not_le.mpr this), fun z => nI_le z (by omega)⟩
  unfold f_M_item
  rw [grd_i g1, grd_i g2, M_sign h hp e]
  by_cases c1 : sg E len p = nI 109
  · rw [if_neg (show ¬ sg E len p = (104 : Int32) from ne 109 104 (by omega) (by omega) (by omega) c1), if_pos (show sg E len p = (109 : Int32) from c1), grd_i g1, r4, e, nI_1, n3]
    have man : ¬ sg E len (p + 1) = nI 101 → ∀ x : Option RT, (x = if (8 : Int32) ≤ nI c.1 then
        (bI (f_M_word_3 w 84 (0 : Int32)) (fun v10 w10 => if v10 = 0 then (some (some (.int (0 : Int32)), w10)) else (bI (f_M_number w10 (0 : Int32) (0 : Int32) (6 : Int32)) (fun v13 w13 => if v13 = 0 then (some (some (.int (0 : Int32)), w13)) else (bI (f_M_number w13 (1 : Int32) (0 : Int32) (9 : Int32)) (fun v16 w16 => if v16 = 0 then (some (some (.int (0 : Int32)), w16)) else (bI (f_M_number w16 (2 : Int32) (0 : Int32) (2 : Int32)) (fun v19 w19 => if v19 = 0 then (some (some (.int (0 : Int32)), w19)) else (bI (f_M_newMan w19 (w19.1 80 (0 : Int32).toNatClampNeg) (w19.1 80 (1 : Int32).toNatClampNeg) (w19.1 80 (2 : Int32).toNatClampNeg)) (fun _ w21 => some (some (.int (1 : Int32)), w21)))))))))))
        else (bI (f_M_word_3 w 84 (1 : Int32)) (fun v10 w10 => if v10 = 0 then (some (some (.int (0 : Int32)), w10)) else (bI (f_M_number w10 (0 : Int32) (0 : Int32) (6 : Int32)) (fun v13 w13 => if v13 = 0 then (some (some (.int (0 : Int32)), w13)) else (bI (f_M_number w13 (1 : Int32) (0 : Int32) (9 : Int32)) (fun v16 w16 => if v16 = 0 then (some (some (.int (0 : Int32)), w16)) else (bI (f_M_number w16 (2 : Int32) (0 : Int32) (2 : Int32)) (fun v19 w19 => if v19 = 0 then (some (some (.int (0 : Int32)), w19)) else (bI (f_M_newMan w19 (w19.1 80 (0 : Int32).toNatClampNeg) (w19.1 80 (1 : Int32).toNatClampNeg) (w19.1 80 (2 : Int32).toNatClampNeg)) (fun _ w21 => some (some (.int (1 : Int32)), w21)))))))))))) →
        EI x (fun v w' => MI w w' v (itN (sg E len) c p)) := by
      intro hq x hx
      rw [hx, itN_m c1 hq]
      by_cases z : 8 ≤ c.1
      · rw [if_pos (i8.mpr z)]
        exact M_manp (t := 0) h m gd (by omega) (fun _ => z) (fun q => by omega) hp e
      · rw [if_neg (fun q => z (i8.mp q))]
        exact M_manp (t := 1) h m gd (by omega) (fun q => by omega) (fun _ => by omega) hp e
    by_cases z : len ≤ p + 1
    · rw [if_pos (nI_le z (by omega))]
      exact man (by rw [sg_out z]; exact fun q => nI_ne_m1 (by omega) q.symm) _ rfl
    · have hlt := nI_lt (a := p + 1) (b := len) (by omega) (by omega)
      rw [if_neg (Int32.not_le.mpr hlt)]
      have e1 : (160 : Int32) * w.1 62 23 + nI p + 1 = nI (160 * s + p + 1) := by rw [h.2.2.1, k160, nI_mul, nI_add, nI_1]
      have e2 : (w.2.1 65 ((160 : Int32) * w.1 62 23 + nI p + 1).toNatClampNeg).toInt32 = sg E len (p + 1) := by
        rw [e1, nI_clamp (by omega), sg_in (by omega), ← h.2.2.2.2 (p + 1) (by omega)]
        rfl
      rw [e2, grd_i (by rw [e1]; exact vpb_n (by omega) (by omega))]
      by_cases c2 : sg E len (p + 1) = nI 101
      · rw [if_pos (show sg E len (p + 1) = (101 : Int32) from c2)]
        unfold itN
        have c3 : ¬ sg E len (p + 1) = nI 97 := fun q => absurd ((nI_eq (by omega) (by omega)).mp (c2.symm.trans q)) (by omega)
        rw [if_pos c1, if_neg c3]
        refine Ev.bI (M_word h hp e (a := 85) (by omega) (by omega)) (fun v1 w1 h1 => ?_)
        obtain ⟨rfl, q2, q3, q4⟩ := h1
        show Ev _ _
        cases hq : (wI (sg E len) 85 p).2
        · rw [show (wdN (sg E len) (TX 85) (tLen 85) 0 p).2 = false from hq, if_neg (show ¬ false = true by simp), if_neg (show ¬ false = true by simp), if_pos (show nI 0 = (0 : Int32) from rfl)]
          exact Ev.i (MI.fail q3 q2 rfl)
        · rw [show (wdN (sg E len) (TX 85) (tLen 85) 0 p).2 = true from hq, if_pos (show true = true from rfl), if_pos (show true = true from rfl), if_neg (show ¬ nI 1 = (0 : Int32) by decide)]
          refine Ev.bI (M_two (b := 1) (h.mf q3) (m.mf q3) gd (by omega) (wI_le hp).2 q2) (fun v2 w2 h2 => ?_)
          have h3 := MI.tr q3 h2
          obtain ⟨y1, y2, y3, y4, y5, y6⟩ := h3
          rcases y6 with ⟨d, y6, rfl, y7⟩ | ⟨y6, rfl⟩
          · rw [if_neg (show ¬ nI 1 = (0 : Int32) by decide)]
            exact Ev.i ⟨y1, y2, y3, y4, y5, .inl ⟨d, y6, rfl, y7⟩⟩
          · rw [if_pos (show nI 0 = (0 : Int32) from rfl)]
            exact Ev.i ⟨y1, y2, y3, y4, y5, .inr ⟨y6, rfl⟩⟩
      · rw [if_neg (show ¬ sg E len (p + 1) = (101 : Int32) from c2)]
        exact man c2 _ rfl
  · by_cases c2 : sg E len p = nI 112
    · rw [if_neg (show ¬ sg E len p = (104 : Int32) from ne 112 104 (by omega) (by omega) (by omega) c2), if_neg (show ¬ sg E len p = (109 : Int32) from c1), if_pos (show sg E len p = (112 : Int32) from c2)]
      unfold itN
      rw [if_neg c1, if_pos c2]
      refine Ev.bI (M_word h hp e (a := 86) (by omega) (by omega)) (fun v1 w1 h1 => ?_)
      obtain ⟨rfl, q2, q3, q4⟩ := h1
      cases hq : (wI (sg E len) 86 p).2
      · rw [show (wdN (sg E len) (TX 86) (tLen 86) 0 p).2 = false from hq, if_neg (show ¬ false = true by simp), if_neg (show ¬ false = true by simp), if_pos (show nI 0 = (0 : Int32) from rfl)]
        exact Ev.i (MI.fail q3 q2 rfl)
      · rw [show (wdN (sg E len) (TX 86) (tLen 86) 0 p).2 = true from hq, if_pos (show true = true from rfl), if_pos (show true = true from rfl), if_neg (show ¬ nI 1 = (0 : Int32) by decide)]
        refine Ev.bI (M_two (b := 0) (h.mf q3) (m.mf q3) gd (by omega) (wI_le hp).2 q2) (fun v2 w2 h2 => ?_)
        have h3 := MI.tr q3 h2
        obtain ⟨y1, y2, y3, y4, y5, y6⟩ := h3
        rcases y6 with ⟨d, y6, rfl, y7⟩ | ⟨y6, rfl⟩
        · rw [if_neg (show ¬ nI 1 = (0 : Int32) by decide)]
          exact Ev.i ⟨y1, y2, y3, y4, y5, .inl ⟨d, y6, rfl, y7⟩⟩
        · rw [if_pos (show nI 0 = (0 : Int32) from rfl)]
          exact Ev.i ⟨y1, y2, y3, y4, y5, .inr ⟨y6, rfl⟩⟩
    · by_cases c3 : sg E len p = nI 119
      · rw [if_neg (show ¬ sg E len p = (104 : Int32) from ne 119 104 (by omega) (by omega) (by omega) c3), if_neg (show ¬ sg E len p = (109 : Int32) from c1), if_neg (show ¬ sg E len p = (112 : Int32) from c2), if_pos (show sg E len p = (119 : Int32) from c3), n10]
        unfold itN
        rw [if_neg c1, if_neg c2, if_pos c3]
        by_cases z : 30 ≤ c.2.1
        · rw [if_pos (i30.mpr z)]
          exact M_wrd3 (t := 0) h m gd (by omega) (fun _ => z) (fun q => by omega) hp e
        · rw [if_neg (fun q => z (i30.mp q))]
          exact M_wrd3 (t := 1) h m gd (by omega) (fun q => by omega) (fun _ => by omega) hp e
      · unfold itN
        rw [if_neg c1, if_neg c2, if_neg c3]
        by_cases c4 : sg E len p = nI 104
        · rw [if_pos (show sg E len p = (104 : Int32) from c4)]
          refine Ev.bI (M_word h hp e (a := 88) (by omega) (by omega)) (fun v1 w1 h1 => ?_)
          obtain ⟨rfl, q2, q3, q4⟩ := h1
          cases hq : (wI (sg E len) 88 p).2
          · rw [show (wdN (sg E len) (TX 88) (tLen 88) 0 p).2 = false from hq, if_neg (show ¬ false = true by simp), if_neg (show ¬ false = true by simp), if_pos (show nI 0 = (0 : Int32) from rfl)]
            exact Ev.i (MI.fail q3 q2 rfl)
          · rw [show (wdN (sg E len) (TX 88) (tLen 88) 0 p).2 = true from hq, if_pos (show true = true from rfl), if_pos (show true = true from rfl), if_neg (show ¬ nI 1 = (0 : Int32) by decide)]
            obtain ⟨⟨r1, r2, r3, r4⟩, mb⟩ := m.mf q3
            refine Ev.i ⟨q3.gm.set (.inr ⟨rfl, by omega⟩), ?_, ?_, ?_, ?_, .inl ⟨_, rfl, rfl, ⟨⟨?_, ?_, ?_, ?_⟩, ?_⟩⟩⟩
            · rw [rd_o (by omega), q3.k76]
            · rw [rd_j (by omega), q3.1 62 12 (by omega) (by omega)]
            · rw [rd_j (by omega), q3.1 62 23 (by omega) (by omega)]
            · rw [rd_j (by omega)]
              exact q2
            · rw [rd_j (by omega)]
              exact r1
            · rw [rd_s]
              rfl
            · intro i hi
              rw [rd_o (by omega), rd_o (by omega), rd_o (by omega), rd_o (by omega)]
              exact r3 i hi
            · intro q hq
              have : q < 0 := hq
              omega
            · intro i hi
              rw [rd_o (by omega), rd_o (by omega)]
              exact mb i hi
        · rw [if_neg (show ¬ sg E len p = (104 : Int32) from c4), if_neg (show ¬ sg E len p = (109 : Int32) from c1), if_neg (show ¬ sg E len p = (112 : Int32) from c2), if_neg (show ¬ sg E len p = (119 : Int32) from c3), wI_88 c4, if_neg (show ¬ (false : Bool) = true by simp)]
          exact Ev.i (MI.fail (MFr.rfl w) e rfl)
