/-! a court's text: both loops -/
def XO (w w' : MW) (v : Int32) (r : Nat × Option CS) : Prop := (r.2 = none ∧ r.1 ≤ 160 ∧ v = nI 0 ∧ FX w w' ∧ w'.1 52 3 = nI r.1) ∨ (∃ c' w5, r.2 = some c' ∧ GD c' ∧ v = nI r.1 ∧ FX w w5 ∧ w5.1 23 4 = w.1 23 4 ∧ X3 w5 c' ∧ w5.1 52 3 = -nI 1 ∧ BC 1 23 w5 w')
theorem XO.tr {w w1 w2 : MW} {v : Int32} {r : Nat × Option CS} (f : FX w w1) (e : w1.1 23 4 = w.1 23 4) (h : XO w1 w2 v r) : XO w w2 v r := by
  rcases h with ⟨h1, h2, h3, h4, h5⟩ | ⟨c, w5, h1, h2, h3, h4, h5, h6⟩
  · exact .inl ⟨h1, h2, h3, f.tr h4, h5⟩
  · exact .inr ⟨c, w5, h1, h2, h3, f.tr h4, h5.trans e, h6⟩
theorem X_over {s len : Nat} {E : Nat → Int32} : ∀ (m n p k : Nat) (w : MW) (c : CS), RCx w s len E → X3 w c → GD c → p ≤ len → w.1 52 1 = nI p → w.1 52 3 = -nI 1 → k ≤ p → len - p < m → len - p < n →
    EI (f_Rd_readOver_23 1 (35 + 2 * s) n w (nI k) (nI k)) (fun v w' => XO w w' v (crN (sg E len) len m c p k)) := by
  intro m
  induction m with
  | zero => intro n p k w c _ _ _ _ _ _ _ h _; omega
  | succ m ih =>
    intro n p k w c h x gd hp e e3 hk hm hn
    have hl := h.2.1
    obtain ⟨n, rfl⟩ : ∃ n', n = n' + 1 := ⟨n - 1, by omega⟩
    unfold f_Rd_readOver_23 crN
    have k160' : ¬ (160 : Int32) < nI k := fun q => absurd (nI_le (a := k) (b := 160) (by omega) (by omega)) (Int32.not_le.mpr q)
    rw [if_neg k160']
    refine Ev.bV (X_item h x gd hp e e3) (fun w4 h4 => ?_)
    obtain ⟨f4, e4, hx⟩ := h4
    have hok : ∀ c', (itN (sg E len) c p).2 = some c' → p < (itN (sg E len) c p).1 ∧ (itN (sg E len) c p).1 ≤ len ∧ GD c' := fun c' q => itN_ok gd hp (Prod.ext rfl q)
    generalize hr : itN (sg E len) c p = r at *
    have h4 := h.fx f4
    rcases hx with ⟨c', q1, q2, q3, q4⟩ | ⟨q1, q2, q3⟩
    · obtain ⟨o1, o2, o3⟩ := hok c' q1
      rw [if_pos (show w4.1 52 3 = (-1 : Int32) from q2), if_neg (show ¬ r.2 = none by rw [q1]; simp), q3, h4.2.2.1, q1, nI_1]
      by_cases z : r.1 = len
      · rw [if_pos (show nI r.1 = nI len by rw [z]), if_pos z]
        refine Ev.bV (X_become (a0 := 1) (a1 := 23) (.inl (by omega))) (fun w5 h5 => ?_)
        exact Ev.i (.inr ⟨c', w4, rfl, o3, rfl, f4, e4, q4, q2, h5⟩)
      · have zn : ¬ nI r.1 = nI len := fun q => z ((nI_eq (by omega) (by omega)).mp q)
        have tk : u_Rd_take w4 (35 + 2 * s) (59 : Int32) = if sg E len r.1 = nI 59 then setI w4 52 1 (nI (r.1 + 1)) else setI w4 52 3 (nI r.1) := X_take h4 o2 q3 (c := 59) (by omega)
        rw [if_neg zn, if_neg z, grd_i (fun _ _ _ => vpb_n (by omega) (by omega)), tk]
        by_cases y : sg E len r.1 = nI 59
        · rw [if_pos y, if_pos y, if_pos (show (setI w4 52 1 (nI (r.1 + 1))).1 52 3 = (-1 : Int32) by rw [rd_j (by omega)]; exact q2)]
          have f5 : FX w4 (setI w4 52 1 (nI (r.1 + 1))) := (FX.rfl w4).set (by omega)
          have d5 : RDF w4 (setI w4 52 1 (nI (r.1 + 1))) := (RDF.rfl w4).set
          refine (ih n (r.1 + 1) (k + 1) _ c' (h4.fx f5) (q4.rdf d5 o3.1.1) o3 (by omega) rd_s (by rw [rd_j (by omega)]; exact q2) (by omega) (by omega) (by omega)).mono (fun v w' z => ?_)
          exact XO.tr (f4.tr f5) (by rw [rd_o (by omega)]; exact e4) z
        · rw [if_neg y, if_neg y, if_neg (show ¬ (setI w4 52 3 (nI r.1)).1 52 3 = (-1 : Int32) by rw [rd_s]; exact nI_ne_m1 (by omega))]
          exact Ev.i (.inl ⟨rfl, by show r.1 ≤ 160; omega, rfl, f4.set (by omega), rd_s⟩)
    · rw [if_neg (show ¬ w4.1 52 3 = (-1 : Int32) by rw [q3]; exact nI_ne_m1 (by omega)), if_pos q1]
      exact Ev.i (.inl ⟨rfl, q2, rfl, f4, q3⟩)
def MO (w w' : MW) (v : Int32) (r : Nat × Option CS) : Prop := (r.2 = none ∧ ∃ w5 w6, GM w w5 ∧ w5.1 76 = w.1 76 ∧ AGN 76 (setI w5 62 13 (nI r.1)) w6 ∧ v = v_M_no w6 (-6 : Int32) ∧ w' = u_M_no w6 (-6 : Int32)) ∨
  (∃ c' w5, r.2 = some c' ∧ v = nI r.1 ∧ GM w w5 ∧ w5.1 62 12 = w.1 62 12 ∧ M3 w5 c' ∧ w' = setI w5 62 13 (-1 : Int32))
theorem MO.tr {w w1 w2 : MW} {v : Int32} {r : Nat × Option CS} (f : GM w w1) (e : w1.1 62 12 = w.1 62 12) (e2 : w1.1 76 = w.1 76) (h : MO w1 w2 v r) : MO w w2 v r := by
  rcases h with ⟨h1, w5, w6, h2, h3, h4⟩ | ⟨c, w5, h1, h2, h3, h4, h5⟩
  · exact .inl ⟨h1, w5, w6, f.tr h2, h3.trans e2, h4⟩
  · exact .inr ⟨c, w5, h1, h2, f.tr h3, h4.trans e, h5⟩
theorem M_outF {n q : Nat} {w : MW} {x1 x3 : Int32} (e : w.1 62 24 = nI q) : EI (f_M_court_39 (n + 1) w x1 x3 (nI 0)) (fun v w' => MO w w' v (q, none)) := by
  unfold f_M_court_39
  rw [if_pos (show nI 0 = (0 : Int32) from rfl), e]
  refine Ev.bV (M_again (a1 := 76) (by omega) (by omega)) (fun w6 h6 => ?_)
  exact Ev.i (.inl ⟨rfl, w, w6, GM.rfl w, rfl, h6, rfl, rfl⟩)
theorem MCx.gm {w w' : MW} {s len : Nat} {E : Nat → Int32} (h : MCx w s len E) (f : GM w w') (e : w'.1 62 23 = w.1 62 23) : MCx w' s len E := by
  obtain ⟨h1, h2, h3, h4, h5⟩ := h
  exact ⟨h1, h2, by rw [e]; exact h3, by rw [f.1 64 _ (by unfold Sc; omega) (by omega) (by omega)]; exact h4, by rw [f.2.2]; exact h5⟩
theorem M_over {s len : Nat} {E : Nat → Int32} : ∀ (m n p k : Nat) (w : MW) (c : CS), MCx w s len E → M3 w c → GD c → p ≤ len → w.1 62 24 = nI p → k ≤ p → len - p < m → len - p + 1 < n →
    EI (f_M_court_39 n w (nI s) (nI k) (nI 1)) (fun v w' => MO w w' v (crN (sg E len) len m c p k)) := by
  intro m
  induction m with
  | zero => intro n p k w c _ _ _ _ _ _ h _; omega
  | succ m ih =>
    intro n p k w c h x gd hp e hk hm hn
    have hl := h.2.1
    have hs := h.1
    obtain ⟨n, rfl⟩ : ∃ n', n = n' + 2 := ⟨n - 2, by omega⟩
    unfold crN
    rw [f_M_court_39, if_neg (show ¬ nI 1 = (0 : Int32) by decide)]
    refine Ev.bI (M_item h x gd hp e) (fun v5 w5 h5 => ?_)
    obtain ⟨f5, e76, e12, e23, e24, hx⟩ := h5
    have hok : ∀ c', (itN (sg E len) c p).2 = some c' → p < (itN (sg E len) c p).1 ∧ (itN (sg E len) c p).1 ≤ len ∧ GD c' := fun c' q => itN_ok gd hp (Prod.ext rfl q)
    generalize hr : itN (sg E len) c p = r at *
    have h5 := h.gm f5 e23
    rcases hx with ⟨c', q1, rfl, q4⟩ | ⟨q1, rfl⟩
    · obtain ⟨o1, o2, o3⟩ := hok c' q1
      obtain ⟨g1, g2⟩ := gdM h5 o2 e24
      have el : w5.1 64 (nI s).toNatClampNeg = nI len := by
        rw [nI_clamp (by omega)]
        exact h5.2.2.2.1
      rw [if_neg (show ¬ nI 1 = (0 : Int32) by decide), if_neg (show ¬ nI 1 = (0 : Int32) by decide), grd_i (vpb_n hs (by omega)), e24, el, nI_1, if_neg (show ¬ r.2 = none by rw [q1]; simp), q1]
      by_cases z : r.1 = len
      · rw [if_pos (show nI r.1 = nI len by rw [z]), if_pos z]
        exact Ev.i (.inr ⟨c', w5, rfl, rfl, f5, e12, q4, rfl⟩)
      · have zn : ¬ nI r.1 = nI len := fun q => z ((nI_eq (by omega) (by omega)).mp q)
        obtain ⟨v1, v2⟩ := M_is (c := 59) h5 o2 e24
        have v1' : v_M_is w5 (59 : Int32) = if sg E len r.1 = nI 59 then nI 1 else nI 0 := v1
        have v2' : u_M_is w5 (59 : Int32) = if sg E len r.1 = nI 59 then setI w5 62 24 (nI (r.1 + 1)) else w5 := v2
        rw [if_neg zn, if_neg z, if_neg (show ¬ nI 1 = (0 : Int32) by decide), ← e24, grd_i g1, grd_i g2, v1', v2']
        by_cases y : sg E len r.1 = nI 59
        · rw [if_pos y, if_pos y, if_pos y]
          have d5 : MFr w5 (setI w5 62 24 (nI (r.1 + 1))) := (MFr.rfl w5).set (.inl ⟨rfl, rfl⟩)
          refine (ih (n + 1) (r.1 + 1) (k + 1) _ c' (h5.mf d5) (q4.mf d5) o3 (by omega) rd_s (by omega) (by omega) (by omega)).mono (fun v w' z => ?_)
          exact MO.tr (f5.tr d5.gm) (by rw [rd_j (by omega)]; exact e12) (by rw [rd_o (by omega)]; exact e76) z
        · rw [if_neg y, if_neg y, if_neg y]
          exact (M_outF e24).mono (fun v w' z => MO.tr f5 e12 e76 z)
    · rw [if_pos (show nI 0 = (0 : Int32) from rfl), if_pos (show nI 0 = (0 : Int32) from rfl), if_pos (show nI 0 = (0 : Int32) from rfl), if_pos q1]
      exact (M_outF e24).mono (fun v w' z => MO.tr f5 e12 e76 z)
