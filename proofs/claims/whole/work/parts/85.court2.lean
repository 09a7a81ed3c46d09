/-! court: the question itself -/
theorem sim_court (x1 : Int32) : SIM (fun w => f_X_court w x1) (fun w => f_M_court w x1) := by
  intro sc N w h
  have h0 := h
  obtain ⟨⟨n, L, K, A, F, M, S, g1, g2⟩, g3, g4, g5, g6⟩ := h0
  have ok := g1.2.2.1
  have om := g1.2.2.2.1
  have hn := ok.1
  have hL := ok.2.1
  have os := g6.oks g1.2.1 hL
  show EI (f_X_court w x1) (fun v w1 => EI (f_M_court w1 x1) (fun v' w2 => v' = v ∧ Inv sc N w2))
  unfold f_X_court
  rcases row_cases hn g2 x1 with ⟨c, h1, h2, h3, h4⟩ | ⟨s, t, len, hs, rfl, hr, h3, h4⟩
  · obtain ⟨n1, n2, n3, n4, n5⟩ := neg_lt0 h1 (by omega)
    rw [h3, if_neg (show ¬ -nI c = (0 : Int32) from n3), v_ref]
    refine Ev.i ?_
    unfold f_M_court
    rw [noRow_c (w := w) (xr_o (by omega)), h4, if_neg (show ¬ (0 : Int32) ≤ -nI c from n2), v_no]
    exact Ev.i ⟨rfl, inv_ref h h1 (by omega)⟩
  have xc : XC 1 w n (w.1 69) (w.1 70) := g1.2.2.2.2.1
  rw [h3, if_pos (show nI 0 = (0 : Int32) from rfl), grd_i (vpb_n hs (by omega)), nI_clamp (by omega)]
  refine Ev.bI (X_courtL hs hr g1.1 xc ok om os) (fun v3 w3 h5 => ?_)
  obtain ⟨w2, f2, e4, xo⟩ := h5
  have hup := fun c' => crN_up (g := sg (fun i => (w.2.1 65 (160 * s + i)).toInt32) len) (len := len) 200 (n, L, K, A, F, M, S, w.1 69, w.1 70) 0 0 c'
  have hX : ∀ w' : MW, (∀ a j, 61 ≤ a → w'.1 a j = w.1 a j) → w'.2 = w.2 → _ := fun w' q1 q2 => M_courtL (w := w') hs hr h4 g1.2.1 ok om os q1 q2
  generalize crN (sg (fun i => (w.2.1 65 (160 * s + i)).toInt32) len) len 200 (n, L, K, A, F, M, S, w.1 69, w.1 70) 0 0 = r at *
  rcases xo with ⟨r1, r2, rfl, f3, e3⟩ | ⟨c', w5, r1, gd, rfl, f3, e23, x3, e3, b3⟩
  · -- refused: the fault is told
    have f := f2.tr f3
    have m6 : (-6 : Int32) = -nI 6 := by decide
    rw [if_neg (show ¬ (setI w3 0 9 (w3.1 52 3)).1 0 9 = (-1 : Int32) by rw [rd_s, e3]; exact nI_ne_m1 (by omega)), v_ref, e3, m6]
    refine Ev.i ?_
    rw [xref (by omega) (by omega)]
    have exX : ∀ a j, ¬ Sc a j → (setI (setI w3 0 9 (nI r.1)) 51 6 ((setI w3 0 9 (nI r.1)).1 51 6 + nI 1)).1 a j = (setI (setI w 0 9 (nI r.1)) 51 6 (w.1 51 6 + nI 1)).1 a j := fun a j q => by
      have e51 : (setI w3 0 9 (nI r.1)).1 51 6 = w.1 51 6 := by rw [rd_o (by omega), f.1 51 (by omega) (by omega)]
      have ew : w3.1 a j = w.1 a j := by rw [f.1 a (by unfold Sc at q; omega) (by unfold Sc at q; omega)]
      rw [e51, rd_ite, rd_ite (w := setI w 0 9 (nI r.1)), rd_ite, rd_ite (w := w), ew]
    generalize hX1 : setI (setI w3 0 9 (nI r.1)) 51 6 ((setI w3 0 9 (nI r.1)).1 51 6 + nI 1) = wX at *
    have eX2 : wX.2 = w.2 := by rw [← hX1, rd_2, rd_2, f.2]
    have eXh : ∀ a j, 61 ≤ a → wX.1 a j = w.1 a j := fun a j q => by
      rw [← hX1, rd_o (by omega), rd_o (by omega), f.1 a (by omega) (by omega)]
    refine EI.mono (hX wX eXh eX2) (fun v w' hz => ?_)
    obtain ⟨wk, k1, k2, k3, mo⟩ := hz
    rcases mo with ⟨_, w5, w6, gm, e76, ag, rfl, rfl⟩ | ⟨c', _, q1, _⟩
    case inr => rw [r1] at q1; cases q1
    rw [m6, v_no]
    refine ⟨rfl, ?_⟩
    rw [mref (by omega) (by omega)]
    obtain ⟨d1, d2, d3, d4, d5, d6, d7⟩ := ag
    obtain ⟨kp1, kp2, kp3, kp4, kp5⟩ := k3
    -- what stands in the end
    have kk : ∀ a j, a ≠ 76 → ¬ Sc a j → (setI (setI wk 62 23 (nI s)) 62 24 (nI 0)).1 a j = wX.1 a j := fun a j q1 q2 => by
      rw [rd_ite, if_neg (by unfold Sc at q2; omega), rd_ite, if_neg (by unfold Sc at q2; omega), k1 a j q1]
    have all : ∀ a j, ¬ Sc a j → ¬ pCT a j ∨ a = 1 ∨ (3 ≤ a ∧ a ≤ 11) → w6.1 a j = (setI (setI (setI w 0 9 (nI r.1)) 51 6 (w.1 51 6 + nI 1)) 62 13 (nI r.1)).1 a j := fun a j q1 q2 => by
      rw [d1 a j (by unfold pCT at q2; omega) (by unfold pCT at q2; omega) (by unfold pCT at q2; omega), rd_ite, rd_ite (w := setI (setI w 0 9 (nI r.1)) 51 6 (w.1 51 6 + nI 1)), gm.1 a j q1 (by unfold pCT at q2; omega) (by unfold pCT at q2; omega), kk a j (by unfold Sc at q1; omega) q1, exX a j q1]
    have k76 : ∀ j, (setI w5 62 13 (nI r.1)).1 76 j = wk.1 76 j := fun j => by
      rw [rd_o (by omega), e76, rd_o (by omega), rd_o (by omega)]
    have hZ := inv_ref (inv_fr h (nI r.1)) (c := 6) (by omega) (by omega)
    rw [xref (by omega) (by omega), mref (by omega) (by omega)] at hZ
    have hf : ∀ a j, ¬ Sc a j → ¬ pCT a j → (setI w6 73 6 (w6.1 73 6 + nI 1)).1 a j = (setI (setI (setI (setI w 0 9 (nI r.1)) 62 13 (nI r.1)) 51 6 ((setI (setI w 0 9 (nI r.1)) 62 13 (nI r.1)).1 51 6 + nI 1)) 73 6 ((setI (setI (setI w 0 9 (nI r.1)) 62 13 (nI r.1)) 51 6 ((setI (setI w 0 9 (nI r.1)) 62 13 (nI r.1)).1 51 6 + nI 1)).1 73 6 + nI 1)).1 a j := by
      intro a j q1 q2
      have e73 : w6.1 73 6 = w.1 73 6 := by
        rw [all 73 6 (by unfold Sc; omega) (.inl (by unfold pCT; omega)), rd_o (by omega), rd_o (by omega), rd_o (by omega)]
      have z73 : (setI (setI (setI w 0 9 (nI r.1)) 62 13 (nI r.1)) 51 6 ((setI (setI w 0 9 (nI r.1)) 62 13 (nI r.1)).1 51 6 + nI 1)).1 73 6 = w.1 73 6 := by
        rw [rd_o (by omega), rd_o (by omega), rd_o (by omega)]
      have z51 : (setI (setI w 0 9 (nI r.1)) 62 13 (nI r.1)).1 51 6 = w.1 51 6 := by
        rw [rd_o (by omega), rd_o (by omega)]
      rw [z73, z51, e73]
      by_cases c1 : a = 73 ∧ j = 6
      · rw [rd_ite, if_pos c1, rd_ite, if_pos c1]
      rw [rd_ite, if_neg c1, rd_ite (w := setI (setI (setI w 0 9 (nI r.1)) 62 13 (nI r.1)) 51 6 (w.1 51 6 + nI 1)), if_neg c1, all a j q1 (.inl q2)]
      by_cases c2 : a = 62 ∧ j = 13
      · rw [rd_ite, if_pos c2, rd_ite, if_neg (by omega), rd_ite, if_pos c2]
      rw [rd_ite, if_neg c2]
      by_cases c3 : a = 51 ∧ j = 6
      · rw [rd_ite, if_pos c3, rd_ite, if_pos c3]
      · rw [rd_ite, if_neg c3, rd_ite (w := setI (setI w 0 9 (nI r.1)) 62 13 (nI r.1)), if_neg c3, rd_ite (w := setI w 0 9 (nI r.1)), if_neg c2]
    obtain ⟨⟨x1', x2', x3', x4'⟩, ⟨m1, m2, m3, m4⟩, _, _, mb, sd⟩ := g1
    have cx : ∀ a j, a = 1 ∨ (3 ≤ a ∧ a ≤ 11) → (setI w6 73 6 (w6.1 73 6 + nI 1)).1 a j = w.1 a j := fun a j q => by
      rw [rd_o (by omega), all a j (by unfold Sc; omega) (.inr q), rd_o (by omega), rd_o (by omega), rd_o (by omega)]
    have cm : ∀ i, i < 8 → w6.1 66 i = w.1 66 i ∧ w6.1 67 i = w.1 67 i ∧ w6.1 68 i = w.1 68 i ∧ w6.1 69 i = w.1 69 i ∧ w6.1 70 i = w.1 70 i ∧ w6.1 71 i = w.1 71 i := fun i hi => by
      obtain ⟨t1, t2, t3, t4, t5, t6⟩ := d3 i hi
      obtain ⟨u1, u2, u3, u4, u5, u6⟩ := kp1 i hi
      rw [t1, t2, t3, t4, t5, t6, k76, k76, k76, k76, k76, k76, u1, u2, u3, u4, u5, u6]
      exact ⟨eXh _ _ (by omega), eXh _ _ (by omega), eXh _ _ (by omega), eXh _ _ (by omega), eXh _ _ (by omega), eXh _ _ (by omega)⟩
    refine inv_ct hZ hf (fun a q => by funext j; exact hf a j (by unfold Sc; omega) (by unfold pCT; omega)) ?_ (n' := n) (L' := L) (K' := K) (A' := A) (F' := F) (M' := M) (S' := S) ⟨⟨?_, ?_, ?_, ?_⟩, ⟨?_, ?_, ?_, ?_⟩, ok, om, ?_, ?_⟩ os (fun n' hn' e => ?_)
    · show w6.2 = w.2
      rw [d2]
      show w5.2 = w.2
      rw [gm.2.2]
      show wk.2 = w.2
      rw [k2, eX2]
    · rw [cx 1 1 (by omega)]
      exact x1'
    · rw [cx 1 3 (by omega)]
      exact x2'
    · intro i hi
      rw [cx (1 + 2 + i) 0 (by omega), cx (1 + 2 + i) 1 (by omega), cx (1 + 2 + i) 2 (by omega), cx (1 + 2 + i) 5 (by omega)]
      exact x3' i hi
    · intro p hp
      rw [cx (1 + 10) p (by omega)]
      exact x4' p hp
    · rw [rd_o (by omega), d5, k76, kp3, eXh 62 3 (by omega)]
      exact m1
    · rw [rd_o (by omega), d6, k76, kp4, eXh 62 10 (by omega)]
      exact m2
    · intro i hi
      obtain ⟨t1, t2, t3, t4, t5, t6⟩ := cm i (by omega)
      rw [rd_o (by omega), rd_o (by omega), rd_o (by omega), rd_o (by omega), t1, t2, t3, t6]
      exact m3 i hi
    · intro p hp
      rw [rd_o (by omega), d4 p (by omega), k76, kp2 p (by omega), eXh 72 p (by omega)]
      exact m4 p hp
    · intro i hi
      obtain ⟨t1, t2, t3, t4, t5, t6⟩ := cm i (by omega)
      rw [cx (1 + 2 + i) 3 (by omega), cx (1 + 2 + i) 4 (by omega), rd_o (by omega), rd_o (by omega), t4, t5]
      exact mb i hi
    · rw [cx 1 4 (by omega), rd_o (by omega), d7, k76, kp5, eXh 62 12 (by omega)]
      exact sd
    · rw [rd_o (by omega), rd_o (by omega), rd_j (by omega), rd_o (by omega), m1] at e
      have := (nI_eq (by omega) (by omega)).mp e
      omega
  · -- read over
    have b13 : w3.1 52 3 = -nI 1 := by
      rw [b3.2.2.2.2.2.1 52 3 (by omega)]
      exact e3
    have cf1 : CF 1 w5 w3 := b3.2.2.2.2.2
    have m1' : (-1 : Int32) = -nI 1 := by decide
    rw [if_pos (show (setI w3 0 9 (w3.1 52 3)).1 0 9 = (-1 : Int32) by rw [rd_s, b13]; rfl), b13]
    refine Ev.i ?_
    have f := f2.tr f3
    have e3w : ∀ a j, ¬ Sc a j → ¬ (1 ≤ a ∧ a ≤ 11) → w3.1 a j = w.1 a j := fun a j q1 q2 => by
      rw [cf1.1 a j (by omega), f.1 a (by unfold Sc at q1; omega) (by unfold Sc at q1; omega)]
    have eXh : ∀ a j, 61 ≤ a → (setI w3 0 9 (-nI 1)).1 a j = w.1 a j := fun a j q => by
      rw [rd_o (by omega), cf1.1 a j (by omega), f.1 a (by omega) (by omega)]
    have eX2 : (setI w3 0 9 (-nI 1)).2 = w.2 := by rw [rd_2, cf1.2, f.2]
    refine EI.mono (hX _ eXh eX2) (fun v w' hz => ?_)
    obtain ⟨wk, k1, k2, k3, mo⟩ := hz
    rcases mo with ⟨q1, _⟩ | ⟨d, w5', q1, rfl, gm, e12, mm, rfl⟩
    · rw [r1] at q1
      cases q1
    rw [r1] at q1
    cases q1
    refine ⟨rfl, ?_⟩
    rw [m1']
    have kk : ∀ a j, a ≠ 76 → ¬ Sc a j → (setI (setI wk 62 23 (nI s)) 62 24 (nI 0)).1 a j = (setI w3 0 9 (-nI 1)).1 a j := fun a j q1 q2 => by
      rw [rd_ite, if_neg (by unfold Sc at q2; omega), rd_ite, if_neg (by unfold Sc at q2; omega), k1 a j q1]
    have all : ∀ a j, ¬ Sc a j → ¬ pCT a j ∨ a = 1 ∨ (3 ≤ a ∧ a ≤ 11) → (setI w5' 62 13 (-nI 1)).1 a j = (setI (setI w3 0 9 (-nI 1)) 62 13 (-nI 1)).1 a j := fun a j q1 q2 => by
      rw [rd_ite, rd_ite (w := setI w3 0 9 (-nI 1)), gm.1 a j q1 (by unfold pCT at q2; omega) (by unfold pCT at q2; omega), kk a j (by unfold Sc at q1; omega) q1]
    have hZ := inv_fr h (-nI 1)
    have hf : ∀ a j, ¬ Sc a j → ¬ pCT a j → (setI w5' 62 13 (-nI 1)).1 a j = (setI (setI w 0 9 (-nI 1)) 62 13 (-nI 1)).1 a j := fun a j q1 q2 => by
      rw [all a j q1 (.inl q2), rd_ite, rd_ite (w := setI w 0 9 (-nI 1)), rd_ite, rd_ite (w := w), e3w a j q1 (by unfold pCT at q2; unfold Sc at q1; omega)]
    have x1w : RX 1 w3 c'.1 c'.2.1 c'.2.2.1 c'.2.2.2.1 c'.2.2.2.2.1 c'.2.2.2.2.2.1 c'.2.2.2.2.2.2.1 := b3.rx x3.1 gd.1.1 gd.1.2.1
    have x1c : XC 1 w3 c'.1 c'.2.2.2.2.2.2.2.1 c'.2.2.2.2.2.2.2.2 := b3.xc x3.2 gd.1.1
    have rm' : RM (setI w5' 62 13 (-nI 1)) c'.1 c'.2.1 c'.2.2.1 c'.2.2.2.1 c'.2.2.2.2.1 c'.2.2.2.2.2.1 c'.2.2.2.2.2.2.1 := by
      obtain ⟨⟨r1, r2, r3, r4⟩, _⟩ := mm
      refine ⟨by rw [rd_j (by omega)]; exact r1, by rw [rd_j (by omega)]; exact r2, fun i hi => ?_, fun p hp => by rw [rd_o (by omega)]; exact r4 p hp⟩
      rw [rd_o (by omega), rd_o (by omega), rd_o (by omega), rd_o (by omega)]
      exact r3 i hi
    have mb' : MB (setI w5' 62 13 (-nI 1)) c'.1 c'.2.2.2.2.2.2.2.1 c'.2.2.2.2.2.2.2.2 := fun i hi => by
      rw [rd_o (by omega), rd_o (by omega)]
      exact mm.2 i hi
    have ct : CT (setI w5' 62 13 (-nI 1)) c'.1 c'.2.1 c'.2.2.1 c'.2.2.2.1 c'.2.2.2.2.1 c'.2.2.2.2.2.1 c'.2.2.2.2.2.2.1 := by
      refine CT.mk2 x1w x1c rm' mb' gd.1 gd.2.1 (fun a j q => ?_) ?_
      · rw [all a j (by unfold Sc; omega) (.inr q), rd_o (by omega), rd_o (by omega)]
      · rw [rd_j (by omega), e12, rd_j (by omega), rd_j (by omega), k1 62 12 (by omega), eXh 62 12 (by omega), b3.2.2.1, e23, e4]
        exact g1.2.2.2.2.2
    refine inv_ct hZ hf (fun a q => by funext j; exact hf a j (by unfold Sc; omega) (by unfold pCT; omega)) ?_ ct gd.2.2 (fun n' hn' e => ?_)
    · show w5'.2 = w.2
      rw [gm.2.2]
      show wk.2 = w.2
      rw [k2, eX2]
    · rw [rd_j (by omega), rd_o (by omega), g1.2.1.1] at e
      have h1 := hup c' r1
      have h2 := (nI_eq (by omega) (by omega)).mp e
      have h3 : n ≤ c'.1 := h1
      omega
