/-! court: on both sides alike -/
theorem itN_up {g : Nat → Int32} {c c' : CS} {p q : Nat} (h : itN g c p = (q, some c')) : c.1 ≤ c'.1 := by
  unfold itN manI twoI wrdI at h
  repeat' split at h
  all_goals first
    | (cases h; done)
    | (cases h; exact Nat.le_succ _)
    | (cases h; exact Nat.le_refl _)
theorem crN_up {g : Nat → Int32} {len : Nat} : ∀ (m : Nat) (c : CS) (p k : Nat) (c' : CS), (crN g len m c p k).2 = some c' → c.1 ≤ c'.1 := by
  intro m
  induction m with
  | zero => intro c p k c' h; cases h
  | succ m ih =>
    intro c p k c' h
    unfold crN at h
    have hup : ∀ d, (itN g c p).2 = some d → c.1 ≤ d.1 := fun d q => itN_up (g := g) (p := p) (Prod.ext rfl q)
    generalize itN g c p = r at *
    by_cases q : r.2 = none
    · rw [if_pos q] at h
      cases h
    rw [if_neg q] at h
    obtain ⟨d, hd⟩ : ∃ d, r.2 = some d := by
      cases e : r.2 with
      | none => exact absurd e q
      | some d => exact ⟨d, rfl⟩
    rw [hd] at h
    have h1 := hup d hd
    by_cases z : r.1 = len
    · rw [if_pos z] at h
      cases h
      exact h1
    rw [if_neg z] at h
    by_cases y : g r.1 = nI 59
    · rw [if_pos y] at h
      have := ih d _ _ c' h
      omega
    · rw [if_neg y] at h
      cases h
theorem inv_fr {sc : Nat → Int32} {N : Nat} {w : MW} (h : Inv sc N w) (v : Int32) : Inv sc N (setI (setI w 0 9 v) 62 13 v) := by
  obtain ⟨⟨n, L, K, A, F, M, S, g1, g2⟩, g3, g4, g5, g6⟩ := h
  refine ⟨⟨n, L, K, A, F, M, S, g1.ag (fun a j p => ?_), fun s hs => (g2 s hs).ag hs (fun a j p => ?_) rfl⟩, ?_, g4.ag (fun a j p => ?_), g5.ag (fun a j p => ?_), g6.ag (fun a p => ?_) rfl (by rw [rd_j (by omega), rd_o (by omega)]) (fun p => by rw [rd_o (by omega), rd_o (by omega)])⟩
  · unfold pCT at p
    rw [rd_ite, if_neg (by omega), rd_ite, if_neg (by omega)]
  · unfold pSH at p
    rw [rd_o (by omega), rd_o (by omega)]
  · refine ⟨by rw [rd_o (by omega), rd_s, rd_s], fun j a b => ?_⟩
    rw [rd_o (by omega), rd_o (by omega), rd_o (by omega), rd_o (by omega)]
    exact g3.2 j a b
  · unfold pTR at p
    rw [rd_ite, if_neg (by omega), rd_ite, if_neg (by omega)]
  · unfold pIM at p
    rw [rd_ite, if_neg (by omega), rd_ite, if_neg (by omega)]
  · rw [rd_o (by omega), rd_o (by omega)]
theorem M_courtL {w0 w : MW} {s t len n L : Nat} {K A F : Nat → Nat} {M S : Nat → Int32} (hs : s < 8) (hr : RW w0 s t len) (hno : v_M_noRow w0 (nI s) = nI 0) (rm : RM w0 n L K A F M S) (ok : OK n L K A F) (om : OKM n M) (os : OKS L S)
    (ew : ∀ a j, 61 ≤ a → w.1 a j = w0.1 a j) (e2 : w.2 = w0.2) :
    EI (f_M_court w (nI s)) (fun v w' => ∃ wk, (∀ a j, a ≠ 76 → wk.1 a j = w.1 a j) ∧ wk.2 = w.2 ∧ KP 76 w wk ∧ MO (setI (setI wk 62 23 (nI s)) 62 24 (nI 0)) w' v (crN (sg (fun i => (w0.2.1 65 (160 * s + i)).toInt32) len) len 200 (n, L, K, A, F, M, S, w0.1 69, w0.1 70) 0 0)) := by
  obtain ⟨ht, hl, q1, q2, q3, q4, q5⟩ := hr
  unfold f_M_court
  rw [noRow_c (w := w0) (by funext j; exact ew 63 j (by omega)), hno, if_pos (show (0 : Int32) ≤ nI 0 by decide)]
  refine Ev.bV (M_keep (a1 := 76) (by omega) (by omega)) (fun wk hk => ?_)
  obtain ⟨k1, k2, k3⟩ := hk
  have c2 : (setI (setI wk 62 23 (nI s)) 62 24 (0 : Int32)).2 = w0.2 := by
    rw [rd_2, rd_2, k2, e2]
  have cc : ∀ a j, 61 ≤ a → a ≠ 76 → ¬ (a = 62 ∧ (j = 23 ∨ j = 24)) → (setI (setI wk 62 23 (nI s)) 62 24 (0 : Int32)).1 a j = w0.1 a j := fun a j h1 h2 h3 => by
    rw [rd_ite, if_neg (by omega), rd_ite, if_neg (by omega), k1 a j h2, ew a j h1]
  have mc : MCx (setI (setI wk 62 23 (nI s)) 62 24 (0 : Int32)) s len (fun i => (w0.2.1 65 (160 * s + i)).toInt32) := ⟨hs, hl, by rw [rd_j (by omega), rd_s], by rw [cc 64 s (by omega) (by omega) (by omega)]; exact q4, fun i hi => by rw [c2]⟩
  have m3 : M3 (setI (setI wk 62 23 (nI s)) 62 24 (0 : Int32)) (n, L, K, A, F, M, S, w0.1 69, w0.1 70) := by
    obtain ⟨r1, r2, r3, r4⟩ := rm
    refine ⟨⟨by rw [cc 62 3 (by omega) (by omega) (by omega)]; exact r1, by rw [cc 62 10 (by omega) (by omega) (by omega)]; exact r2, fun i hi => ?_, fun p hp => by rw [cc 72 p (by omega) (by omega) (by omega)]; exact r4 p hp⟩, fun i hi => ⟨cc 69 i (by omega) (by omega) (by omega), cc 70 i (by omega) (by omega) (by omega)⟩⟩
    rw [cc 66 i (by omega) (by omega) (by omega), cc 67 i (by omega) (by omega) (by omega), cc 68 i (by omega) (by omega) (by omega), cc 71 i (by omega) (by omega) (by omega)]
    exact r3 i hi
  refine EI.mono (M_over 200 FU 0 0 _ _ mc m3 ⟨ok, om, os⟩ (by omega) rd_s (by omega) (by omega) (by unfold FU; omega)) (fun v w' z => ⟨wk, k1, k2, k3, z⟩)
theorem X_courtL {w : MW} {s t len n L : Nat} {K A F : Nat → Nat} {M S B H : Nat → Int32} (hs : s < 8) (hr : RW w s t len) (rx : RX 1 w n L K A F M S) (xc : XC 1 w n B H) (ok : OK n L K A F) (om : OKM n M) (os : OKS L S) :
    EI (f_Rd_readOver w 1 (35 + 2 * s)) (fun v w' => ∃ w2, FX w w2 ∧ w2.1 23 4 = w.1 1 4 ∧ XO w2 w' v (crN (sg (fun i => (w.2.1 65 (160 * s + i)).toInt32) len) len 200 (n, L, K, A, F, M, S, B, H) 0 0)) := by
  obtain ⟨ht, hl, q1, q2, q3, q4, q5⟩ := hr
  unfold f_Rd_readOver
  refine Ev.bV (X_become (a0 := 23) (a1 := 1) (.inr (by omega))) (fun w1 hb => ?_)
  have hcf : CF 23 w w1 := hb.2.2.2.2.2
  have f1 : FX w w1 := hcf.fx
  have f2 : FX w (setI (setI w1 52 1 (0 : Int32)) 52 3 (-1 : Int32)) := (f1.set (by omega)).set (by omega)
  have d2 : RDF w1 (setI (setI w1 52 1 (0 : Int32)) 52 3 (-1 : Int32)) := ((RDF.rfl w1).set).set
  have rc : RCx w s len (fun i => (w.2.1 65 (160 * s + i)).toInt32) := ⟨hs, hl, q3, fun i hi => by rw [q5 i hi]⟩
  have x3 : X3 w1 (n, L, K, A, F, M, S, B, H) := ⟨hb.rx rx ok.1 ok.2.1, hb.xc xc ok.1⟩
  refine EI.mono (X_over 200 FU 0 0 _ _ (rc.fx f2) (x3.rdf d2 ok.1) ⟨ok, om, os⟩ (by omega) (by rw [rd_j (by omega), rd_s]; rfl) (by rw [rd_s]; rfl) (by omega) (by omega) (by unfold FU; omega)) (fun v w' z => ⟨_, f2, ?_, z⟩)
  rw [rd_o (by omega), rd_o (by omega)]
  exact hb.2.2.1
