/-! the two states, held against each other -/
def AG (P : Nat → Nat → Prop) (w w' : MW) : Prop := ∀ a j, P a j → w'.1 a j = w.1 a j
def OKM (n : Nat) (M : Nat → Int32) : Prop := ∀ i, i < n → ∀ j, bt (M i) j = true → j < n ∧ j ≠ i ∧ bt (M j) i = true
def CT (w : MW) (n L : Nat) (K A F : Nat → Nat) (M S : Nat → Int32) : Prop :=
  RX 1 w n L K A F M S ∧ RM w n L K A F M S ∧ OK n L K A F ∧ OKM n M ∧ (∀ i, i < n → w.1 (1 + 2 + i) 3 = w.1 69 i ∧ w.1 (1 + 2 + i) 4 = w.1 70 i) ∧ w.1 1 4 = w.1 62 12
def FR (w : MW) : Prop := w.1 0 9 = w.1 62 13 ∧ ∀ j, 1 ≤ j → j < 8 → w.1 51 j = w.1 73 j
def RW (w : MW) (s t len : Nat) : Prop := t < 4 ∧ len ≤ 160 ∧ w.1 (35 + 2 * s) 0 = nI (100 + t) ∧ w.1 63 s = nI (100 + t) ∧ w.1 (35 + 2 * s) 1 = nI len ∧ w.1 64 s = nI len ∧ ∀ i, i < len → w.2.1 (35 + 2 * s + 1) i = w.2.1 65 (160 * s + i)
def SH (w : MW) (n s : Nat) : Prop :=
  (w.1 (35 + 2 * s) 0 = -nI 1 ∧ w.1 63 s = -nI 1 ∧ w.1 (35 + 2 * s) 1 = nI 0) ∨ (∃ m, m < n ∧ w.1 (35 + 2 * s) 0 = nI m ∧ w.1 63 s = nI m ∧ w.1 (35 + 2 * s) 1 = nI 0) ∨ ∃ t len, RW w s t len
def TR (w : MW) : Prop := ∃ t, t ≤ 40 ∧ w.1 60 1 = nI t ∧ w.1 62 15 = nI t ∧ ∀ i, i < t → i < 20 → w.1 61 i = w.1 74 i
def RO75 (w : MW) (n L : Nat) (K A F : Nat → Nat) (M S : Nat → Int32) : Prop :=
  w.1 75 78 = nI n ∧ w.1 75 79 = nI L ∧ (∀ i, i < n → w.1 75 i = nI (K i) ∧ w.1 75 (8 + i) = nI (A i) ∧ w.1 75 (16 + i) = nI (F i) ∧ w.1 75 (40 + i) = M i) ∧ ∀ p, p < L → w.1 75 (48 + p) = S p
def OKS (L : Nat) (S : Nat → Int32) : Prop := ∀ p, p < L → ∃ v, v < 40 ∧ S p = nI v
def IC (w : MW) (n L : Nat) (K A F : Nat → Nat) (M S : Nat → Int32) : Prop :=
  RX 12 w n L K A F M S ∧ RO75 w n L K A F M S ∧ OK n L K A F ∧ OKM n M ∧ (∀ i, i < n → w.1 (12 + 2 + i) 3 = w.1 75 (24 + i) ∧ w.1 (12 + 2 + i) 4 = w.1 75 (32 + i)) ∧ w.1 12 4 = w.1 75 80 ∧ OKS L S
def IM (w : MW) : Prop := (w.1 0 8 = nI 0 ∧ w.1 62 17 = nI 0) ∨ (w.1 0 8 = nI 1 ∧ w.1 62 17 = nI 1 ∧ ∃ n L K A F M S, IC w n L K A F M S)
def WS (w : MW) : Prop := ∃ L S, w.1 62 10 = nI L ∧ L ≤ 30 ∧ (∀ p, p < L → w.1 72 p = S p) ∧ OKS L S
def ABV : List Int32 := [-1, 0, 0, 1, 0, 2, 4]
def BDS : List Int32 := [10, 11, 12, 20, 0, 0, 0, 30, 0, 0, 40, 0, 51, 0, 50, 0, 0, 60, 70, 71, 0]
def TB (sc : Nat → Int32) (N : Nat) (w : MW) : Prop := (∀ j, j < 7 → w.1 81 j = ABV.getD j 0) ∧ (∀ j, j < 21 → w.1 82 j = BDS.getD j 0) ∧ w.1 83 = sc ∧ w.2.2 = N ∧ WS w
def Inv (sc : Nat → Int32) (N : Nat) (w : MW) : Prop := (∃ n L K A F M S, CT w n L K A F M S ∧ ∀ s, s < 8 → SH w n s) ∧ FR w ∧ TR w ∧ IM w ∧ TB sc N w
def pCT (a j : Nat) : Prop := a = 1 ∨ (3 ≤ a ∧ a ≤ 11) ∨ (a = 62 ∧ (j = 3 ∨ j = 10 ∨ j = 12)) ∨ (66 ≤ a ∧ a ≤ 72)
def pFR (a j : Nat) : Prop := (a = 0 ∧ j = 9) ∨ a = 51 ∨ a = 73 ∨ (a = 62 ∧ j = 13)
def pSH (a : Nat) (_ : Nat) : Prop := (35 ≤ a ∧ a ≤ 50) ∨ a = 63 ∨ a = 64
def pTR (a j : Nat) : Prop := (a = 60 ∧ j = 1) ∨ a = 61 ∨ (a = 62 ∧ j = 15) ∨ a = 74
def pIM (a j : Nat) : Prop := (a = 0 ∧ j = 8) ∨ (a = 62 ∧ j = 17) ∨ (12 ≤ a ∧ a ≤ 22) ∨ a = 75
theorem CT.ag {w w' : MW} {n L : Nat} {K A F : Nat → Nat} {M S : Nat → Int32} (h : CT w n L K A F M S) (g : AG pCT w w') : CT w' n L K A F M S := by
  obtain ⟨⟨x1, x2, x3, x4⟩, ⟨m1, m2, m3, m4⟩, ok, om, b, sd⟩ := h
  have hn := ok.1
  refine ⟨⟨?_, ?_, fun i hi => ?_, fun p hp => ?_⟩, ⟨?_, ?_, fun i hi => ?_, fun p hp => ?_⟩, ok, om, fun i hi => ?_, ?_⟩
  · rw [g 1 1 (.inl rfl)]; exact x1
  · rw [g 1 3 (.inl rfl)]; exact x2
  · rw [g (1 + 2 + i) 0 (.inr (.inl (by omega))), g (1 + 2 + i) 1 (.inr (.inl (by omega))), g (1 + 2 + i) 2 (.inr (.inl (by omega))), g (1 + 2 + i) 5 (.inr (.inl (by omega)))]; exact x3 i hi
  · rw [g (1 + 10) p (.inr (.inl (by omega)))]; exact x4 p hp
  · rw [g 62 3 (.inr (.inr (.inl (by omega))))]; exact m1
  · rw [g 62 10 (.inr (.inr (.inl (by omega))))]; exact m2
  · rw [g 66 i (.inr (.inr (.inr (by omega)))), g 67 i (.inr (.inr (.inr (by omega)))), g 68 i (.inr (.inr (.inr (by omega)))), g 71 i (.inr (.inr (.inr (by omega))))]; exact m3 i hi
  · rw [g 72 p (.inr (.inr (.inr (by omega))))]; exact m4 p hp
  · rw [g (1 + 2 + i) 3 (.inr (.inl (by omega))), g (1 + 2 + i) 4 (.inr (.inl (by omega))), g 69 i (.inr (.inr (.inr (by omega)))), g 70 i (.inr (.inr (.inr (by omega))))]; exact b i hi
  · rw [g 1 4 (.inl rfl), g 62 12 (.inr (.inr (.inl (by omega))))]; exact sd
theorem FR.ag {w w' : MW} (h : FR w) (g : AG pFR w w') : FR w' := by
  obtain ⟨h1, h2⟩ := h
  refine ⟨?_, fun j a b => ?_⟩
  · rw [g 0 9 (.inl ⟨rfl, rfl⟩), g 62 13 (.inr (.inr (.inr ⟨rfl, rfl⟩)))]; exact h1
  · rw [g 51 j (.inr (.inl rfl)), g 73 j (.inr (.inr (.inl rfl)))]; exact h2 j a b
theorem RW.ag {w w' : MW} {s t len : Nat} (hs : s < 8) (h : RW w s t len) (g : AG pSH w w') (g2 : w'.2.1 = w.2.1) : RW w' s t len := by
  obtain ⟨h1, h2, h3, h4, h5, h6, h7⟩ := h
  refine ⟨h1, h2, ?_, ?_, ?_, ?_, ?_⟩
  · rw [g (35 + 2 * s) 0 (.inl (by omega))]; exact h3
  · rw [g 63 s (.inr (.inl rfl))]; exact h4
  · rw [g (35 + 2 * s) 1 (.inl (by omega))]; exact h5
  · rw [g 64 s (.inr (.inr rfl))]; exact h6
  · rw [g2]; exact h7
theorem SH.ag {w w' : MW} {n s : Nat} (hs : s < 8) (h : SH w n s) (g : AG pSH w w') (g2 : w'.2.1 = w.2.1) : SH w' n s := by
  rcases h with ⟨h1, h2, h3⟩ | ⟨m, h0, h1, h2, h3⟩ | ⟨t, len, h⟩
  · exact .inl ⟨by rw [g (35 + 2 * s) 0 (.inl (by omega))]; exact h1, by rw [g 63 s (.inr (.inl rfl))]; exact h2, by rw [g (35 + 2 * s) 1 (.inl (by omega))]; exact h3⟩
  · exact .inr (.inl ⟨m, h0, by rw [g (35 + 2 * s) 0 (.inl (by omega))]; exact h1, by rw [g 63 s (.inr (.inl rfl))]; exact h2, by rw [g (35 + 2 * s) 1 (.inl (by omega))]; exact h3⟩)
  · exact .inr (.inr ⟨t, len, h.ag hs g g2⟩)
theorem SH.up {w : MW} {n n' s : Nat} (h : SH w n s) (hn : n ≤ n') : SH w n' s := by
  rcases h with h | ⟨m, h0, h⟩ | h
  · exact .inl h
  · exact .inr (.inl ⟨m, by omega, h⟩)
  · exact .inr (.inr h)
theorem TR.ag {w w' : MW} (h : TR w) (g : AG pTR w w') : TR w' := by
  obtain ⟨t, h0, h1, h2, h3⟩ := h
  refine ⟨t, h0, ?_, ?_, fun i a b => ?_⟩
  · rw [g 60 1 (.inl ⟨rfl, rfl⟩)]; exact h1
  · rw [g 62 15 (.inr (.inr (.inl ⟨rfl, rfl⟩)))]; exact h2
  · rw [g 61 i (.inr (.inl rfl)), g 74 i (.inr (.inr (.inr rfl)))]; exact h3 i a b
theorem IC.ag {w w' : MW} {n L : Nat} {K A F : Nat → Nat} {M S : Nat → Int32} (h : IC w n L K A F M S) (g : AG pIM w w') : IC w' n L K A F M S := by
  obtain ⟨⟨x1, x2, x3, x4⟩, ⟨m1, m2, m3, m4⟩, ok, om, b, sd, os⟩ := h
  have hn := ok.1
  have q : ∀ j, pIM 75 j := fun j => .inr (.inr (.inr rfl))
  have q2 : ∀ a j, 12 ≤ a → a ≤ 22 → pIM a j := fun a j h1 h2 => .inr (.inr (.inl ⟨h1, h2⟩))
  refine ⟨⟨?_, ?_, fun i hi => ?_, fun p hp => ?_⟩, ⟨?_, ?_, fun i hi => ?_, fun p hp => ?_⟩, ok, om, fun i hi => ?_, ?_, os⟩
  · rw [g 12 1 (q2 _ _ (by omega) (by omega))]; exact x1
  · rw [g 12 3 (q2 _ _ (by omega) (by omega))]; exact x2
  · rw [g (12 + 2 + i) 0 (q2 _ _ (by omega) (by omega)), g (12 + 2 + i) 1 (q2 _ _ (by omega) (by omega)), g (12 + 2 + i) 2 (q2 _ _ (by omega) (by omega)), g (12 + 2 + i) 5 (q2 _ _ (by omega) (by omega))]; exact x3 i hi
  · rw [g (12 + 10) p (q2 _ _ (by omega) (by omega))]; exact x4 p hp
  · rw [g 75 _ (q _)]; exact m1
  · rw [g 75 _ (q _)]; exact m2
  · rw [g 75 _ (q _), g 75 _ (q _), g 75 _ (q _), g 75 _ (q _)]; exact m3 i hi
  · rw [g 75 _ (q _)]; exact m4 p hp
  · rw [g (12 + 2 + i) 3 (q2 _ _ (by omega) (by omega)), g (12 + 2 + i) 4 (q2 _ _ (by omega) (by omega)), g 75 _ (q _), g 75 _ (q _)]; exact b i hi
  · rw [g 12 4 (q2 _ _ (by omega) (by omega)), g 75 _ (q _)]; exact sd
theorem IM.ag {w w' : MW} (h : IM w) (g : AG pIM w w') : IM w' := by
  rcases h with ⟨h1, h2⟩ | ⟨h1, h2, n, L, K, A, F, M, S, h⟩
  · exact .inl ⟨by rw [g 0 8 (.inl ⟨rfl, rfl⟩)]; exact h1, by rw [g 62 17 (.inr (.inl ⟨rfl, rfl⟩))]; exact h2⟩
  · exact .inr ⟨by rw [g 0 8 (.inl ⟨rfl, rfl⟩)]; exact h1, by rw [g 62 17 (.inr (.inl ⟨rfl, rfl⟩))]; exact h2, n, L, K, A, F, M, S, h.ag g⟩
theorem TB.new {sc : Nat → Int32} {N : Nat} {w w' : MW} (h : TB sc N w) (g : ∀ a, 81 ≤ a → w'.1 a = w.1 a) (g2 : w'.2.2 = w.2.2) (ws : WS w') : TB sc N w' := by
  obtain ⟨h1, h2, h3, h4, _⟩ := h
  exact ⟨by rw [g 81 (by omega)]; exact h1, by rw [g 82 (by omega)]; exact h2, by rw [g 83 (by omega)]; exact h3, by rw [g2]; exact h4, ws⟩
theorem TB.ag {sc : Nat → Int32} {N : Nat} {w w' : MW} (h : TB sc N w) (g : ∀ a, 81 ≤ a → w'.1 a = w.1 a) (g2 : w'.2.2 = w.2.2) (g3 : w'.1 62 10 = w.1 62 10) (g4 : ∀ p, w'.1 72 p = w.1 72 p) : TB sc N w' := by
  obtain ⟨L, S, a1, a2, a3, a4⟩ := h.2.2.2.2
  exact h.new g g2 ⟨L, S, g3.trans a1, a2, fun p hp => (g4 p).trans (a3 p hp), a4⟩
theorem TB.oks {sc : Nat → Int32} {N : Nat} {w : MW} (h : TB sc N w) {n L : Nat} {K A F : Nat → Nat} {M S : Nat → Int32} (rm : RM w n L K A F M S) (hL : L ≤ 30) : OKS L S := by
  obtain ⟨L', S', a1, a2, a3, a4⟩ := h.2.2.2.2
  have e : L = L' := (nI_eq (by omega) (by omega)).mp (rm.2.1.symm.trans a1)
  subst e
  intro p hp
  obtain ⟨v, hv, e⟩ := a4 p hp
  exact ⟨v, hv, by rw [← rm.2.2.2 p hp, a3 p hp, e]⟩
/-- the scratch of both -/
def Sc (a j : Nat) : Prop := a = 2 ∨ (23 ≤ a ∧ a ≤ 34) ∨ (52 ≤ a ∧ a ≤ 59) ∨ (76 ≤ a ∧ a ≤ 80) ∨ (a = 62 ∧ (j = 23 ∨ j = 24)) ∨ (a = 60 ∧ j ≠ 1)
def FQ (w w' : MW) : Prop := (∀ a j, ¬ Sc a j → w'.1 a j = w.1 a j) ∧ (∀ a, 81 ≤ a → w'.1 a = w.1 a) ∧ w'.2 = w.2
theorem FX.q {w w' : MW} (h : FX w w') : FQ w w' := ⟨fun a j q => by rw [h.1 a (by unfold Sc at q; omega) (by unfold Sc at q; omega)], fun a q => h.1 a (by omega) (by omega), h.2⟩
theorem FM.q {w w' : MW} (h : FM w w') (h81 : ∀ a, 81 ≤ a → w'.1 a = w.1 a) : FQ w w' := ⟨fun a j q => h.1 a j (by unfold Sc at q; omega) (by unfold Sc at q; omega), h81, h.2⟩
theorem FM.q' {w w' : MW} (h : FM w w') : FQ w w' := h.q (fun a ha => by
  funext j
  exact h.1 a j (by omega) (by omega))
theorem FQ.tr {a b c : MW} (h1 : FQ a b) (h2 : FQ b c) : FQ a c := ⟨fun k j p => (h2.1 k j p).trans (h1.1 k j p), fun k p => (h2.2.1 k p).trans (h1.2.1 k p), h2.2.2.trans h1.2.2⟩
theorem Inv.fq {sc : Nat → Int32} {N : Nat} {w w' : MW} (h : Inv sc N w) (f : FQ w w') : Inv sc N w' := by
  obtain ⟨⟨n, L, K, A, F, M, S, h1, h2⟩, h3, h4, h5, h6⟩ := h
  refine ⟨⟨n, L, K, A, F, M, S, h1.ag (fun a j p => f.1 a j ?_), fun s hs => (h2 s hs).ag hs (fun a j p => f.1 a j ?_) (by rw [f.2.2])⟩, h3.ag (fun a j p => f.1 a j ?_), h4.ag (fun a j p => f.1 a j ?_), h5.ag (fun a j p => f.1 a j ?_), h6.ag f.2.1 (by rw [f.2.2]) (f.1 62 10 (by unfold Sc; omega)) (fun p => f.1 72 p (by unfold Sc; omega))⟩
  · unfold pCT at p; unfold Sc; omega
  · unfold pSH at p; unfold Sc; omega
  · unfold pFR at p; unfold Sc; omega
  · unfold pTR at p; unfold Sc; omega
  · unfold pIM at p; unfold Sc; omega
def SIM (x m : MW → Option RT) : Prop := ∀ (sc : Nat → Int32) (N : Nat) (w : MW), Inv sc N w → EI (x w) (fun v w1 => EI (m w1) (fun v' w2 => v' = v ∧ Inv sc N w2))
/-! refusals -/
theorem xref {w : MW} {c : Nat} (h1 : 1 ≤ c) (h7 : c ≤ 7) : u_X_refuse w (-nI c) = setI w 51 c (w.1 51 c + nI 1) := by
  unfold u_X_refuse
  have key : ∀ c, c < 8 → 1 ≤ c → ¬ (-1 : Int32) < -nI c ∧ ¬ -nI c < -7 ∧ (- -nI c).toNatClampNeg = c := by decide +kernel
  obtain ⟨k1, k2, k3⟩ := key c (by omega) h1
  rw [if_neg k1, if_neg k2, k3]
  rfl
theorem mref {w : MW} {c : Nat} (h1 : 1 ≤ c) (h7 : c ≤ 7) : u_M_no w (-nI c) = setI w 73 c (w.1 73 c + nI 1) := by
  unfold u_M_no
  have key : ∀ c, c < 8 → (- -nI c).toNatClampNeg = c := by decide +kernel
  rw [key c (by omega)]
  rfl
theorem inv_ref {sc : Nat → Int32} {N : Nat} {w : MW} (h : Inv sc N w) {c : Nat} (h1 : 1 ≤ c) (h7 : c ≤ 7) : Inv sc N (u_M_no (u_X_refuse w (-nI c)) (-nI c)) := by
  rw [xref h1 h7, mref h1 h7]
  obtain ⟨⟨n, L, K, A, F, M, S, g1, g2⟩, g3, g4, g5, g6⟩ := h
  refine ⟨⟨n, L, K, A, F, M, S, g1.ag (fun a j p => ?_), fun s hs => (g2 s hs).ag hs (fun a j p => ?_) rfl⟩, ?_, g4.ag (fun a j p => ?_), g5.ag (fun a j p => ?_), g6.ag (fun a p => ?_) rfl (by rw [rd_o (by omega), rd_o (by omega)]) (fun p => by rw [rd_o (by omega), rd_o (by omega)])⟩
  · unfold pCT at p
    rw [rd_o (by omega), rd_o (by omega)]
  · unfold pSH at p
    rw [rd_o (by omega), rd_o (by omega)]
  · refine ⟨g3.1, fun j a b => ?_⟩
    have e := g3.2 j a b
    by_cases q : j = c
    · subst q
      rw [rd_s, rd_o (by decide), rd_s, rd_o (by decide), e]
    · rw [rd_o (by decide), rd_j q, rd_j q, rd_o (by decide), e]
  · unfold pTR at p
    rw [rd_o (by omega), rd_o (by omega)]
  · unfold pIM at p
    rw [rd_o (by omega), rd_o (by omega)]
  · rw [rd_o (by omega), rd_o (by omega)]
theorem xr_o {w : MW} {x : Int32} {a : Nat} (h : a ≠ 51) : (u_X_refuse w x).1 a = w.1 a := by
  unfold u_X_refuse
  split
  · rfl
  split
  · rfl
  · exact rd_o h
theorem xr_2 {w : MW} {x : Int32} : (u_X_refuse w x).2 = w.2 := by
  unfold u_X_refuse
  split
  · rfl
  split
  · rfl
  · rfl
/-! tests of numbers -/
theorem bad_lt {x : Int32} {n : Nat} (hn : n + 1 < 2 ^ 31) (h : nI (n + 1) ≤ x) : nI n < x := by
  rw [Int32.le_iff_toInt_le, nI_toInt hn] at h
  rw [Int32.lt_iff_toInt_lt, nI_toInt (by omega)]
  omega
theorem bad_lt1 {x : Int32} {n : Nat} (hn : n < 2 ^ 30) (h : nI n ≤ x) : nI n - nI 1 < x := by
  rcases Nat.eq_zero_or_pos n with rfl | h0
  · rw [Int32.le_iff_toInt_le, nI_toInt (by omega)] at h
    have e : (nI 0 - nI 1).toInt = -1 := by decide
    rw [Int32.lt_iff_toInt_lt, e]
    omega
  · obtain ⟨m, rfl⟩ : ∃ m, n = m + 1 := ⟨n - 1, by omega⟩
    rw [pk_sub (by omega)]
    exact bad_lt (by omega) h
theorem isSh_b {w : MW} {x : Int32} (h : Bad x 8) : v_X_isShelf w x = nI 0 := by
  unfold v_X_isShelf
  rcases h with h | h
  · rw [if_pos h]; rfl
  · split
    · rfl
    · first | rfl | exact if_pos h
theorem isSh_g {w : MW} {s : Nat} (h : s < 8) : v_X_isShelf w (nI s) = nI 1 := by
  unfold v_X_isShelf
  rw [if_neg (nI_pos (by omega))]
  simp (disch := omega) only [l0, l1, l2, l3, l4, l5, l6, l7, l8, l9, l10, l12, l20, l30, l31, l40, l99, l160, ite_self, nI_add, nI_leI, nI_ltI, nI_eq, nI_clamp, nI_sub', nI_mul, vpb_n, eq_self, implies_true, grd_t, grd_i, if_pos, if_neg, bI_i, bV_n, bx0, bx1, mh0, mh1, rd_s, rd_o, rd_j, rd_2, rdL_1, ↓reduceIte, Bool.false_eq_true, Bool.true_eq_false, Nat.add_eq, Nat.zero_add, Nat.add_zero, not_true_eq_false, not_false_eq_true]
theorem isKd_b {w : MW} {x : Int32} (h : Bad x 7) : v_X_isKind w x = nI 0 := by
  unfold v_X_isKind
  rcases h with h | h
  · rw [if_pos h]; rfl
  · split
    · rfl
    · first | rfl | exact if_pos h
theorem isKd_g {w : MW} {s : Nat} (h : s < 7) : v_X_isKind w (nI s) = nI 1 := by
  unfold v_X_isKind
  rw [if_neg (nI_pos (by omega))]
  simp (disch := omega) only [l0, l1, l2, l3, l4, l5, l6, l7, l8, l9, l10, l12, l20, l30, l31, l40, l99, l160, ite_self, nI_add, nI_leI, nI_ltI, nI_eq, nI_clamp, nI_sub', nI_mul, vpb_n, eq_self, implies_true, grd_t, grd_i, if_pos, if_neg, bI_i, bV_n, bx0, bx1, mh0, mh1, rd_s, rd_o, rd_j, rd_2, rdL_1, ↓reduceIte, Bool.false_eq_true, Bool.true_eq_false, Nat.add_eq, Nat.zero_add, Nat.add_zero, not_true_eq_false, not_false_eq_true]
theorem isRo_b {w : MW} {x : Int32} (h : Bad x 10) : v_X_isRounds w x = nI 0 := by
  unfold v_X_isRounds
  rcases h with h | h
  · rw [if_pos h]; rfl
  · split
    · rfl
    · rw [if_pos (show (9 : Int32) < x from bad_lt (n := 9) (by omega) h)]; rfl
theorem isRo_g {w : MW} {s : Nat} (h : s < 10) : v_X_isRounds w (nI s) = nI 1 := by
  unfold v_X_isRounds
  rw [if_neg (nI_pos (by omega))]
  simp (disch := omega) only [l0, l1, l2, l3, l4, l5, l6, l7, l8, l9, l10, l12, l20, l30, l31, l40, l99, l160, ite_self, nI_add, nI_leI, nI_ltI, nI_eq, nI_clamp, nI_sub', nI_mul, vpb_n, eq_self, implies_true, grd_t, grd_i, if_pos, if_neg, bI_i, bV_n, bx0, bx1, mh0, mh1, rd_s, rd_o, rd_j, rd_2, rdL_1, ↓reduceIte, Bool.false_eq_true, Bool.true_eq_false, Nat.add_eq, Nat.zero_add, Nat.add_zero, not_true_eq_false, not_false_eq_true]
theorem man_b {w : MW} {c n : Nat} {x : Int32} (e : w.1 c 1 = nI n) (h : Bad x n) : v_Ct_isMan w c x = nI 0 := by
  unfold v_Ct_isMan
  rw [e]
  rcases h with h | h
  · rw [if_pos h]; rfl
  · split
    · rfl
    · first | rfl | exact if_pos h
theorem man_g {w : MW} {c n i : Nat} (e : w.1 c 1 = nI n) (h : i < n) (hn : n < 2 ^ 31) : v_Ct_isMan w c (nI i) = nI 1 := by
  unfold v_Ct_isMan
  rw [e, if_neg (nI_pos (by omega))]
  simp (disch := omega) only [l0, l1, l2, l3, l4, l5, l6, l7, l8, l9, l10, l12, l20, l30, l31, l40, l99, l160, ite_self, nI_add, nI_leI, nI_ltI, nI_eq, nI_clamp, nI_sub', nI_mul, vpb_n, eq_self, implies_true, grd_t, grd_i, if_pos, if_neg, bI_i, bV_n, bx0, bx1, mh0, mh1, rd_s, rd_o, rd_j, rd_2, rdL_1, ↓reduceIte, Bool.false_eq_true, Bool.true_eq_false, Nat.add_eq, Nat.zero_add, Nat.add_zero, not_true_eq_false, not_false_eq_true]
theorem plc_b {w : MW} {c n : Nat} {x : Int32} (e : w.1 c 3 = nI n) (h : Bad x n) : v_Ct_isPlace w c x = nI 0 := by
  unfold v_Ct_isPlace
  rw [e]
  rcases h with h | h
  · rw [if_pos h]; rfl
  · split
    · rfl
    · first | rfl | exact if_pos h
theorem plc_g {w : MW} {c n i : Nat} (e : w.1 c 3 = nI n) (h : i < n) (hn : n < 2 ^ 31) : v_Ct_isPlace w c (nI i) = nI 1 := by
  unfold v_Ct_isPlace
  rw [e, if_neg (nI_pos (by omega))]
  simp (disch := omega) only [l0, l1, l2, l3, l4, l5, l6, l7, l8, l9, l10, l12, l20, l30, l31, l40, l99, l160, ite_self, nI_add, nI_leI, nI_ltI, nI_eq, nI_clamp, nI_sub', nI_mul, vpb_n, eq_self, implies_true, grd_t, grd_i, if_pos, if_neg, bI_i, bV_n, bx0, bx1, mh0, mh1, rd_s, rd_o, rd_j, rd_2, rdL_1, ↓reduceIte, Bool.false_eq_true, Bool.true_eq_false, Nat.add_eq, Nat.zero_add, Nat.add_zero, not_true_eq_false, not_false_eq_true]
theorem has_b {w : MW} {c n : Nat} {x : Int32} (e : w.1 c 1 = nI n) (h : Bad x n) : v_Sh_has w c x = nI 0 := man_b e h
theorem has_g {w : MW} {c n i : Nat} (e : w.1 c 1 = nI n) (h : i < n) (hn : n < 2 ^ 31) : v_Sh_has w c (nI i) = nI 1 := man_g e h hn
theorem wi_b {w : MW} {n : Nat} {x y : Int32} (hn : n < 2 ^ 30) (hy : y = nI n - nI 1) (h : Bad x n) : v_M_within w x (0 : Int32) y = nI 0 := by
  unfold v_M_within
  rcases h with h | h
  · rw [if_pos h]; rfl
  · split
    · rfl
    · rw [if_pos (by rw [hy]; exact bad_lt1 hn h)]; rfl
theorem wi_g {w : MW} {n i : Nat} {y : Int32} (hn : n < 2 ^ 30) (hy : y = nI n - nI 1) (h : i < n) : v_M_within w (nI i) (0 : Int32) y = nI 1 := by
  unfold v_M_within
  rw [if_neg (nI_pos (by omega)), hy, pk_sub (by omega)]
  simp (disch := omega) only [l0, l1, l2, l3, l4, l5, l6, l7, l8, l9, l10, l12, l20, l30, l31, l40, l99, l160, ite_self, nI_add, nI_leI, nI_ltI, nI_eq, nI_clamp, nI_sub', nI_mul, vpb_n, eq_self, implies_true, grd_t, grd_i, if_pos, if_neg, bI_i, bV_n, bx0, bx1, mh0, mh1, rd_s, rd_o, rd_j, rd_2, rdL_1, ↓reduceIte, Bool.false_eq_true, Bool.true_eq_false, Nat.add_eq, Nat.zero_add, Nat.add_zero, not_true_eq_false, not_false_eq_true]
theorem mman_b {w : MW} {n : Nat} {x : Int32} (e : w.1 62 3 = nI n) (hn : n < 2 ^ 30) (h : Bad x n) : v_M_isMan w x = nI 0 := wi_b hn (by rw [e]; rfl) h
theorem mman_g {w : MW} {n i : Nat} (e : w.1 62 3 = nI n) (hn : n < 2 ^ 30) (h : i < n) : v_M_isMan w (nI i) = nI 1 := wi_g hn (by rw [e]; rfl) h
theorem mro_b {w : MW} {x : Int32} (h : Bad x 10) : v_M_isRounds w x = nI 0 := wi_b (n := 10) (by omega) (by decide) h
theorem mro_g {w : MW} {i : Nat} (h : i < 10) : v_M_isRounds w (nI i) = nI 1 := wi_g (n := 10) (by omega) (by decide) h
theorem w7_b {w : MW} {x : Int32} (h : Bad x 8) : v_M_within w x (0 : Int32) (7 : Int32) = nI 0 := wi_b (n := 8) (by omega) (by decide) h
theorem w7_g {w : MW} {i : Nat} (h : i < 8) : v_M_within w (nI i) (0 : Int32) (7 : Int32) = nI 1 := wi_g (n := 8) (by omega) (by decide) h
theorem w6_b {w : MW} {x : Int32} (h : Bad x 7) : v_M_within w x (0 : Int32) (6 : Int32) = nI 0 := wi_b (n := 7) (by omega) (by decide) h
theorem w6_g {w : MW} {i : Nat} (h : i < 7) : v_M_within w (nI i) (0 : Int32) (6 : Int32) = nI 1 := wi_g (n := 7) (by omega) (by decide) h
theorem v_ref {w : MW} {x : Int32} : v_X_refuse w x = x := rfl
theorem v_refF {w : MW} {x : Int32} : v_X_refuseFar w x = x - 10 := rfl
theorem v_no {w : MW} {x : Int32} : v_M_no w x = x := rfl
theorem v_no10 {w : MW} {x : Int32} : v_M_no10 w x = x - 10 := rfl
theorem u_refF {w : MW} {x : Int32} : u_X_refuseFar w x = u_X_refuse w x := rfl
theorem u_no10 {w : MW} {x : Int32} : u_M_no10 w x = u_M_no w x := rfl
/-! shelves -/
theorem neg_lt0 {c : Nat} (h1 : 1 ≤ c) (h7 : c < 8) : -nI c < nI 0 ∧ ¬ nI 0 ≤ -nI c ∧ ¬ -nI c = nI 0 ∧ ¬ nI 100 ≤ -nI c ∧ -nI c < nI 100 := by
  have key : ∀ c, c < 8 → 1 ≤ c → -nI c < nI 0 ∧ ¬ nI 0 ≤ -nI c ∧ ¬ -nI c = nI 0 ∧ ¬ nI 100 ≤ -nI c ∧ -nI c < nI 100 := by decide +kernel
  exact key c h7 h1
theorem row_cases {w : MW} {n : Nat} (hn : n ≤ 8) (h : ∀ s, s < 8 → SH w n s) (x : Int32) :
    (∃ c, 1 ≤ c ∧ c ≤ 3 ∧ v_X_rowRefusal w x = -nI c ∧ v_M_noRow w x = -nI c) ∨ (∃ s t len, s < 8 ∧ x = nI s ∧ RW w s t len ∧ v_X_rowRefusal w x = nI 0 ∧ v_M_noRow w x = nI 0) := by
  rcases tri x 8 (by omega) with hb | ⟨s, hs, rfl⟩
  · refine .inl ⟨1, by omega, by omega, ?_, ?_⟩
    · unfold v_X_rowRefusal
      rw [isSh_b hb]
      rfl
    · unfold v_M_noRow
      rw [w7_b hb]
      rfl
  · rcases h s hs with ⟨h1, h2, h3⟩ | ⟨m, h0, h1, h2, h3⟩ | ⟨t, len, h⟩
    · obtain ⟨n1, n2, n3, n4, n5⟩ := neg_lt0 (c := 1) (by omega) (by omega)
      refine .inl ⟨3, by omega, by omega, ?_, ?_⟩
      · unfold v_X_rowRefusal v_Sh_isMan v_Sh_isRow
        rw [isSh_g hs]
        simp (disch := omega) only [l0, l1, l2, l3, l4, l5, l6, l7, l8, l9, l10, l12, l20, l30, l31, l40, l99, l160, ite_self, nI_add, nI_leI, nI_ltI, nI_eq, nI_clamp, nI_sub', nI_mul, vpb_n, eq_self, implies_true, grd_t, grd_i, if_pos, if_neg, bI_i, bV_n, bx0, bx1, mh0, mh1, rd_s, rd_o, rd_j, rd_2, rdL_1, ↓reduceIte, Bool.false_eq_true, Bool.true_eq_false, Nat.add_eq, Nat.zero_add, Nat.add_zero, not_true_eq_false, not_false_eq_true, h1, l100, n1, n5]
      · unfold v_M_noRow
        rw [w7_g hs]
        simp (disch := omega) only [l0, l1, l2, l3, l4, l5, l6, l7, l8, l9, l10, l12, l20, l30, l31, l40, l99, l160, ite_self, nI_add, nI_leI, nI_ltI, nI_eq, nI_clamp, nI_sub', nI_mul, vpb_n, eq_self, implies_true, grd_t, grd_i, if_pos, if_neg, bI_i, bV_n, bx0, bx1, mh0, mh1, rd_s, rd_o, rd_j, rd_2, rdL_1, ↓reduceIte, Bool.false_eq_true, Bool.true_eq_false, Nat.add_eq, Nat.zero_add, Nat.add_zero, not_true_eq_false, not_false_eq_true, h2, n1, n2]
    · refine .inl ⟨2, by omega, by omega, ?_, ?_⟩
      · unfold v_X_rowRefusal v_Sh_isMan v_Sh_isRow
        rw [isSh_g hs]
        simp (disch := omega) only [l0, l1, l2, l3, l4, l5, l6, l7, l8, l9, l10, l12, l20, l30, l31, l40, l99, l160, ite_self, nI_add, nI_leI, nI_ltI, nI_eq, nI_clamp, nI_sub', nI_mul, vpb_n, eq_self, implies_true, grd_t, grd_i, if_pos, if_neg, bI_i, bV_n, bx0, bx1, mh0, mh1, rd_s, rd_o, rd_j, rd_2, rdL_1, ↓reduceIte, Bool.false_eq_true, Bool.true_eq_false, Nat.add_eq, Nat.zero_add, Nat.add_zero, not_true_eq_false, not_false_eq_true, h1, l100]
      · unfold v_M_noRow v_M_isRow
        rw [w7_g hs]
        simp (disch := omega) only [l0, l1, l2, l3, l4, l5, l6, l7, l8, l9, l10, l12, l20, l30, l31, l40, l99, l160, ite_self, nI_add, nI_leI, nI_ltI, nI_eq, nI_clamp, nI_sub', nI_mul, vpb_n, eq_self, implies_true, grd_t, grd_i, if_pos, if_neg, bI_i, bV_n, bx0, bx1, mh0, mh1, rd_s, rd_o, rd_j, rd_2, rdL_1, ↓reduceIte, Bool.false_eq_true, Bool.true_eq_false, Nat.add_eq, Nat.zero_add, Nat.add_zero, not_true_eq_false, not_false_eq_true, h2, l100]
    · have h' := h
      obtain ⟨h1, h2, h3, h4, h5, h6, h7⟩ := h
      refine .inr ⟨s, t, len, hs, rfl, h', ?_, ?_⟩
      · unfold v_X_rowRefusal v_Sh_isMan v_Sh_isRow
        rw [isSh_g hs]
        simp (disch := omega) only [l0, l1, l2, l3, l4, l5, l6, l7, l8, l9, l10, l12, l20, l30, l31, l40, l99, l160, ite_self, nI_add, nI_leI, nI_ltI, nI_eq, nI_clamp, nI_sub', nI_mul, vpb_n, eq_self, implies_true, grd_t, grd_i, if_pos, if_neg, bI_i, bV_n, bx0, bx1, mh0, mh1, rd_s, rd_o, rd_j, rd_2, rdL_1, ↓reduceIte, Bool.false_eq_true, Bool.true_eq_false, Nat.add_eq, Nat.zero_add, Nat.add_zero, not_true_eq_false, not_false_eq_true, h3, l100]
      · unfold v_M_noRow v_M_isRow
        rw [w7_g hs]
        simp (disch := omega) only [l0, l1, l2, l3, l4, l5, l6, l7, l8, l9, l10, l12, l20, l30, l31, l40, l99, l160, ite_self, nI_add, nI_leI, nI_ltI, nI_eq, nI_clamp, nI_sub', nI_mul, vpb_n, eq_self, implies_true, grd_t, grd_i, if_pos, if_neg, bI_i, bV_n, bx0, bx1, mh0, mh1, rd_s, rd_o, rd_j, rd_2, rdL_1, ↓reduceIte, Bool.false_eq_true, Bool.true_eq_false, Nat.add_eq, Nat.zero_add, Nat.add_zero, not_true_eq_false, not_false_eq_true, h4, l100]
