/-! what a function comes to; loops; bits of an Int32 -/
def Ev (x : Option RT) (Q : Option Value → MW → Prop) : Prop := ∃ r w, x = some (r, w) ∧ Q r w
def pI (P : Int32 → MW → Prop) : Option Value → MW → Prop := fun r w => ∃ v, r = some (.int v) ∧ P v w
def pV (P : MW → Prop) : Option Value → MW → Prop := fun r w => r = none ∧ P w
abbrev EI (x : Option RT) (P : Int32 → MW → Prop) : Prop := Ev x (pI P)
abbrev EV (x : Option RT) (P : MW → Prop) : Prop := Ev x (pV P)
theorem Ev.r {r : Option Value} {w : MW} {Q : Option Value → MW → Prop} (h : Q r w) : Ev (some (r, w)) Q := ⟨r, w, rfl, h⟩
theorem Ev.i {v : Int32} {w : MW} {P : Int32 → MW → Prop} (h : P v w) : EI (some (some (.int v), w)) P := ⟨_, w, rfl, v, rfl, h⟩
theorem Ev.v {w : MW} {P : MW → Prop} (h : P w) : EV (some (none, w)) P := ⟨_, w, rfl, rfl, h⟩
theorem Ev.mono {x : Option RT} {Q Q' : Option Value → MW → Prop} (h : Ev x Q) (k : ∀ r w, Q r w → Q' r w) : Ev x Q' := by
  obtain ⟨r, w, e, hq⟩ := h
  exact ⟨r, w, e, k r w hq⟩
theorem EI.mono {x : Option RT} {P P' : Int32 → MW → Prop} (h : EI x P) (k : ∀ v w, P v w → P' v w) : EI x P' := by
  obtain ⟨r, w, e, v, rfl, hp⟩ := h
  exact ⟨_, w, e, v, rfl, k v w hp⟩
theorem EV.mono {x : Option RT} {P P' : MW → Prop} (h : EV x P) (k : ∀ w, P w → P' w) : EV x P' := by
  obtain ⟨r, w, e, rfl, hp⟩ := h
  exact ⟨_, w, e, rfl, k w hp⟩
theorem Ev.bI {x : Option RT} {P : Int32 → MW → Prop} {k : Int32 → MW → Option RT} {Q : Option Value → MW → Prop} (h : EI x P) (hk : ∀ v w, P v w → Ev (k v w) Q) : Ev (bI x k) Q := by
  obtain ⟨r, w, e, v, rfl, hp⟩ := h
  rw [e]
  exact hk v w hp
theorem Ev.bV {x : Option RT} {P : MW → Prop} {k : MW → Option RT} {Q : Option Value → MW → Prop} (h : EV x P) (hk : ∀ w, P w → Ev (k w) Q) : Ev (bV x k) Q := by
  obtain ⟨r, w, e, rfl, hp⟩ := h
  rw [e]
  exact hk w hp
theorem Ev.ite {c : Prop} [Decidable c] {a b : Option RT} {Q : Option Value → MW → Prop} (h1 : c → Ev a Q) (h2 : ¬ c → Ev b Q) : Ev (if c then a else b) Q := by
  split
  · exact h1 (by assumption)
  · exact h2 (by assumption)
theorem Ev.grd {c : Prop} [Decidable c] {a : Option RT} {Q : Option Value → MW → Prop} (h1 : c) (h2 : Ev a Q) : Ev (grd c a) Q := by
  rw [grd_i h1]
  exact h2
theorem bI_i {α : Type} {v : Int32} {w : MW} {k : Int32 → MW → Option α} : bI (some (some (.int v), w)) k = k v w := rfl
theorem bV_n {α : Type} {w : MW} {k : MW → Option α} : bV (some (none, w)) k = k w := rfl
theorem grd_n {α : Type} {i N : Nat} {x : Option α} (h : i < N) (hN : N < 2 ^ 31) : grd (vpb (nI i) N = true) x = x := grd_i (vpb_of (vp_in_nI h hN))
theorem vpb_n {i N : Nat} (h : i < N) (hN : N < 2 ^ 31) : vpb (nI i) N = true := vpb_of (vp_in_nI h hN)
theorem grd_t {α : Type} {x : Option α} : grd True x = x := grd_i trivial
/-- a loop that counts up -/
theorem lp {σ : Type} {F : Nat → σ → Nat → Option RT} {Q : Option Value → MW → Prop} (inv : σ → Nat → Prop) (N i0 : Nat) (s0 : σ) (h0 : inv s0 i0) (hi : i0 ≤ N) (hN : N < 999)
    (exit : ∀ n s, inv s N → Ev (F (n + 1) s N) Q)
    (step : ∀ n s i, i0 ≤ i → i < N → inv s i → (∀ s', inv s' (i + 1) → Ev (F n s' (i + 1)) Q) → Ev (F (n + 1) s i) Q) : Ev (F FU s0 i0) Q := by
  have key : ∀ n i s, i0 ≤ i → i ≤ N → N < n + i → inv s i → Ev (F n s i) Q := by
    intro n
    induction n with
    | zero => intro i s h1 h2 h3; omega
    | succ n ih =>
      intro i s h1 h2 h3 h4
      by_cases h : i = N
      · subst h
        exact exit n s h4
      · exact step n s i h1 (by omega) h4 (fun s' h' => ih (i + 1) s' (by omega) (by omega) (by omega) h')
  exact key FU i0 s0 (Nat.le_refl _) hi (by unfold FU; omega) h0
/-! literals as nI -/
theorem l0 : (0 : Int32) = nI 0 := rfl
theorem l1 : (1 : Int32) = nI 1 := rfl
theorem l2 : (2 : Int32) = nI 2 := rfl
theorem l3 : (3 : Int32) = nI 3 := rfl
theorem l4 : (4 : Int32) = nI 4 := rfl
theorem l5 : (5 : Int32) = nI 5 := rfl
theorem l6 : (6 : Int32) = nI 6 := rfl
theorem l7 : (7 : Int32) = nI 7 := rfl
theorem l8 : (8 : Int32) = nI 8 := rfl
theorem l9 : (9 : Int32) = nI 9 := rfl
theorem l10 : (10 : Int32) = nI 10 := rfl
theorem l12 : (12 : Int32) = nI 12 := rfl
theorem l20 : (20 : Int32) = nI 20 := rfl
theorem l30 : (30 : Int32) = nI 30 := rfl
theorem l31 : (31 : Int32) = nI 31 := rfl
theorem l40 : (40 : Int32) = nI 40 := rfl
theorem l99 : (99 : Int32) = nI 99 := rfl
theorem l160 : (160 : Int32) = nI 160 := rfl
theorem nI_sub' {a b : Nat} (h : b ≤ a) : nI a - nI b = nI (a - b) := pk_sub h
/-! cells of a changed world -/
theorem rd_s {w : MW} {a j : Nat} {v : Int32} : (setI w a j v).1 a j = v := by simp [setI, upd]
theorem rd_o {w : MW} {a j : Nat} {v : Int32} {k : Nat} (h : k ≠ a) : (setI w a j v).1 k = w.1 k := setI_o h
theorem rd_j {w : MW} {a j l : Nat} {v : Int32} (h : l ≠ j) : (setI w a j v).1 a l = w.1 a l := by simp [setI, upd, h]
theorem rd_2 {w : MW} {a j : Nat} {v : Int32} : (setI w a j v).2 = w.2 := rfl
theorem rdL_1 {w : MW} {a j : Nat} {v : Int64} : (setL w a j v).1 = w.1 := rfl
theorem rd_ite {w : MW} {a j : Nat} {v : Int32} (k l : Nat) : (setI w a j v).1 k l = if k = a ∧ l = j then v else w.1 k l := by
  by_cases h : k = a
  · subst h
    by_cases h2 : l = j
    · subst h2
      rw [rd_s, if_pos ⟨rfl, rfl⟩]
    · rw [rd_j h2, if_neg (fun q => h2 q.2)]
  · rw [rd_o h, if_neg (fun q => h q.1)]
/-! bits -/
def bt (x : Int32) (i : Nat) : Bool := x.toBitVec.getLsbD i
theorem bt_ext {x y : Int32} (h : ∀ i, i < 32 → bt x i = bt y i) : x = y := by
  apply Int32.toBitVec_inj.mp
  exact BitVec.eq_of_getLsbD_eq h
theorem bt_or (x y : Int32) (i : Nat) : bt (x ||| y) i = (bt x i || bt y i) := by
  unfold bt
  rw [Int32.toBitVec_or, BitVec.getLsbD_or]
theorem bt_and (x y : Int32) (i : Nat) : bt (x &&& y) i = (bt x i && bt y i) := by
  unfold bt
  rw [Int32.toBitVec_and, BitVec.getLsbD_and]
theorem bt_xor (x y : Int32) (i : Nat) : bt (x ^^^ y) i = (bt x i ^^ bt y i) := by
  unfold bt
  rw [Int32.toBitVec_xor, BitVec.getLsbD_xor]
theorem bt_m1 {i : Nat} (h : i < 32) : bt (-1) i = true := by
  have key : ∀ i, i < 32 → bt (-1) i = true := by decide +kernel
  exact key i h
theorem bt_neg {x : Int32} {i : Nat} (h : i < 32) : bt (x ^^^ (-1)) i = !bt x i := by
  rw [bt_xor, bt_m1 h]
  cases bt x i <;> rfl
theorem bt_big {x : Int32} {i : Nat} (h : 32 ≤ i) : bt x i = false := BitVec.getLsbD_of_ge _ _ h
theorem bt_nI (m i : Nat) : bt (nI m) i = (decide (i < 32) && m.testBit i) := by
  unfold bt nI
  rw [show (Int32.ofNat m).toBitVec = BitVec.ofNat 32 m from rfl, BitVec.getLsbD_ofNat]
theorem bt_sh {j i : Nat} (hj : j < 32) (hi : i < 32) : bt ((1 : Int32) <<< (nI j &&& 31)) i = decide (i = j) := by
  have key : ∀ j, j < 32 → ∀ i, i < 32 → bt ((1 : Int32) <<< (nI j &&& 31)) i = decide (i = j) := by decide +kernel
  exact key j hj i hi
theorem bt_0 (i : Nat) : bt 0 i = false := by
  show bt (nI 0) i = false
  rw [bt_nI]
  simp
theorem and1 (y : Int32) : y &&& 1 = if bt y 0 = true then 1 else 0 := by
  apply bt_ext
  intro j hj
  rw [bt_and]
  have e : bt 1 j = decide (j = 0) := by
    have key : ∀ j, j < 32 → bt 1 j = decide (j = 0) := by decide +kernel
    exact key j hj
  by_cases h0 : j = 0
  · subst h0
    cases h : bt y 0 <;> simp [e, bt_0]
  · rw [e]
    split <;> simp [e, h0, bt_0]
theorem ush_bv (x : Int32) {i : Nat} (h : i < 32) : (ush x (nI i)).toBitVec = x.toBitVec >>> i := by
  have e : (((nI i).toUInt32 &&& Int32.toUInt32 31).toBitVec % 32).toNat = i := by
    have key : ∀ i, i < 32 → (((nI i).toUInt32 &&& Int32.toUInt32 31).toBitVec % 32).toNat = i := by decide +kernel
    exact key i h
  show (x.toUInt32 >>> ((nI i).toUInt32 &&& Int32.toUInt32 31)).toBitVec = _
  rw [UInt32.toBitVec_shiftRight, BitVec.ushiftRight_eq', e]
  rfl
theorem bt_ush (x : Int32) {i : Nat} (h : i < 32) : bt (ush x (nI i)) 0 = bt x i := by
  show (ush x (nI i)).toBitVec.getLsbD 0 = _
  rw [ush_bv x h, BitVec.getLsbD_ushiftRight]
  rfl
theorem bt_shr (x : Int32) {i : Nat} (h : i < 32) : bt (x >>> (nI i &&& 31)) 0 = bt x i := by
  have e : ((nI i &&& 31).toBitVec.smod 32).toNat = i := by
    have key : ∀ i, i < 32 → ((nI i &&& 31).toBitVec.smod 32).toNat = i := by decide +kernel
    exact key i h
  unfold bt
  rw [Int32.toBitVec_shiftRight, BitVec.getLsbD_sshiftRight', e]
  simp [h]
theorem one_ne : ¬ ((1 : Int32) = 0) := by decide
theorem zero_ne : ¬ ((0 : Int32) = 1) := by decide
theorem bx0 {x : Int32} {i : Nat} (h : i < 32) : ((ush x (nI i)) &&& nI 1 = nI 0) = (bt x i = false) := by
  show ((ush x (nI i)) &&& 1 = 0) = _
  rw [and1, bt_ush x h]
  cases bt x i
  · simp
  · simp [one_ne]
theorem bx1 {x : Int32} {i : Nat} (h : i < 32) : ((ush x (nI i)) &&& nI 1 = nI 1) = (bt x i = true) := by
  show ((ush x (nI i)) &&& 1 = 1) = _
  rw [and1, bt_ush x h]
  cases bt x i
  · simp [zero_ne]
  · simp
theorem mh {w : MW} {x : Int32} {i : Nat} (h : i < 32) : v_M_has w x (nI i) = if bt x i = true then 1 else 0 := by
  unfold v_M_has
  rw [and1, bt_shr x h]
  cases bt x i
  · simp [zero_ne]
  · simp
theorem mh0 {w : MW} {x : Int32} {i : Nat} (h : i < 32) : (v_M_has w x (nI i) = nI 0) = (bt x i = false) := by
  rw [mh h]
  show (_ = (0 : Int32)) = _
  cases bt x i
  · simp
  · simp [one_ne]
theorem mh1 {w : MW} {x : Int32} {i : Nat} (h : i < 32) : (v_M_has w x (nI i) = nI 1) = (bt x i = true) := by
  rw [mh h]
  show (_ = (1 : Int32)) = _
  cases bt x i
  · simp [zero_ne]
  · simp
/-! frames -/
/-- what the class' questions leave: all but its scratch -/
def FX (w w' : MW) : Prop := (∀ a, (a < 23 ∨ 33 < a) → (a < 52 ∨ 59 < a) → w'.1 a = w.1 a) ∧ w'.2 = w.2
/-- what the reference's questions leave -/
def FM (w w' : MW) : Prop := (∀ a j, (a < 77 ∨ 80 < a) → ¬ (a = 62 ∧ (j = 23 ∨ j = 24)) → w'.1 a j = w.1 a j) ∧ w'.2 = w.2
theorem FX.rfl (w : MW) : FX w w := ⟨fun _ _ _ => Eq.refl _, Eq.refl _⟩
theorem FM.rfl (w : MW) : FM w w := ⟨fun _ _ _ _ => Eq.refl _, Eq.refl _⟩
theorem FX.tr {a b c : MW} (h1 : FX a b) (h2 : FX b c) : FX a c := ⟨fun k p q => (h2.1 k p q).trans (h1.1 k p q), h2.2.trans h1.2⟩
theorem FM.tr {a b c : MW} (h1 : FM a b) (h2 : FM b c) : FM a c := ⟨fun k j p q => (h2.1 k j p q).trans (h1.1 k j p q), h2.2.trans h1.2⟩
theorem FX.set {w w' : MW} {a j : Nat} {v : Int32} (h : FX w w') (ha : (23 ≤ a ∧ a ≤ 33) ∨ (52 ≤ a ∧ a ≤ 59)) : FX w (setI w' a j v) := ⟨fun k p q => by rw [setI_o (by omega)]; exact h.1 k p q, h.2⟩
theorem FM.set {w w' : MW} {a j : Nat} {v : Int32} (h : FM w w') (ha : 77 ≤ a ∧ a ≤ 80) : FM w (setI w' a j v) := ⟨fun k l p q => by rw [setI_o (by omega)]; exact h.1 k l p q, h.2⟩
theorem FX.setA {w w' : MW} {a : Nat} {f : Nat → Int32} (h : FX w w') (ha : (23 ≤ a ∧ a ≤ 33) ∨ (52 ≤ a ∧ a ≤ 59)) : FX w (setA w' a f) := ⟨fun k p q => by rw [setA_o (by omega)]; exact h.1 k p q, h.2⟩
/-- the cells that hold a court of the class -/
def RX (c : Nat) (w : MW) (n L : Nat) (K A F : Nat → Nat) (M S : Nat → Int32) : Prop :=
  w.1 c 1 = nI n ∧ w.1 c 3 = nI L ∧ (∀ i, i < n → w.1 (c + 2 + i) 0 = nI (K i) ∧ w.1 (c + 2 + i) 1 = nI (A i) ∧ w.1 (c + 2 + i) 2 = nI (F i) ∧ w.1 (c + 2 + i) 5 = M i) ∧ ∀ p, p < L → w.1 (c + 10) p = S p
def RM (w : MW) (n L : Nat) (K A F : Nat → Nat) (M S : Nat → Int32) : Prop :=
  w.1 62 3 = nI n ∧ w.1 62 10 = nI L ∧ (∀ i, i < n → w.1 66 i = nI (K i) ∧ w.1 67 i = nI (A i) ∧ w.1 68 i = nI (F i) ∧ w.1 71 i = M i) ∧ ∀ p, p < L → w.1 72 p = S p
def OK (n L : Nat) (K A F : Nat → Nat) : Prop := n ≤ 8 ∧ L ≤ 30 ∧ ∀ i, i < n → K i < 7 ∧ A i < 10 ∧ F i < 3
theorem RX.fx {c : Nat} {w w' : MW} {n L : Nat} {K A F : Nat → Nat} {M S : Nat → Int32} (h : RX c w n L K A F M S) (hn : n ≤ 8) (hc : c ≤ 12) (f : FX w w') : RX c w' n L K A F M S := by
  obtain ⟨h1, h2, h3, h4⟩ := h
  refine ⟨by rw [f.1 c (by omega) (by omega)]; exact h1, by rw [f.1 c (by omega) (by omega)]; exact h2, fun i hi => ?_, fun p hp => by rw [f.1 (c + 10) (by omega) (by omega)]; exact h4 p hp⟩
  rw [f.1 (c + 2 + i) (by omega) (by omega)]
  exact h3 i hi
theorem RM.fm {w w' : MW} {n L : Nat} {K A F : Nat → Nat} {M S : Nat → Int32} (h : RM w n L K A F M S) (f : FM w w') : RM w' n L K A F M S := by
  obtain ⟨h1, h2, h3, h4⟩ := h
  refine ⟨by rw [f.1 62 3 (by omega) (by omega)]; exact h1, by rw [f.1 62 10 (by omega) (by omega)]; exact h2, fun i hi => ?_, fun p hp => by rw [f.1 72 p (by omega) (by omega)]; exact h4 p hp⟩
  rw [f.1 66 i (by omega) (by omega), f.1 67 i (by omega) (by omega), f.1 68 i (by omega) (by omega), f.1 71 i (by omega) (by omega)]
  exact h3 i hi
/-- numbers within, and not -/
def Bad (x : Int32) (n : Nat) : Prop := x < 0 ∨ nI n ≤ x
theorem tri (x : Int32) (n : Nat) (hn : n < 2 ^ 31) : Bad x n ∨ ∃ j, j < n ∧ x = nI j := by
  rcases pk_ix x hn with h | h | h
  · exact .inl (.inl h)
  · exact .inl (.inr h)
  · exact .inr h
/-! what is heard: bits, on both sides -/
def hisP (a f p : Nat) : Nat → Prop
  | 1 => p % 3 = f ∨ (a ≤ p ∧ p % 3 = (f + 1) % 3)
  | 2 => p % 3 = f ∧ (p / 3 + 2) % (a + 2) ≠ 0
  | 3 => p % 3 = f ∨ a ≤ p
  | 4 => (p < a ∧ p % 3 = f) ∨ (a ≤ p ∧ p % 3 = (f + 1) % 3)
  | 5 => (p % 3 = f ∧ (p / 3 + 2) % (a + 2) ≠ 0) ∧ (p / 3 - (p / 3 + 1) / (a + 2)) % 2 = 0
  | 6 => (p < a ∧ p % 3 = f) ∨ (a ≤ p ∧ p < 2 * a ∧ p % 3 = (f + 1) % 3) ∨ (2 * a ≤ p ∧ p % 3 = (f + 2) % 3)
  | _ => p % 3 = f
theorem tb_sh (p q : Nat) : (1 <<< p).testBit q = true ↔ q = p := by
  rw [Nat.one_shiftLeft, Nat.testBit_two_pow]
  simp [eq_comm]
theorem tb_or (x y q : Nat) : (x ||| y).testBit q = true ↔ x.testBit q = true ∨ y.testBit q = true := by
  rw [Nat.testBit_or, Bool.or_eq_true]
theorem thN_bit (lo hi : Nat) : ∀ (n acc p q : Nat), 30 ≤ p + 3 * n → ((thN lo hi n acc p).testBit q = true ↔ acc.testBit q = true ∨ (p ≤ q ∧ q < hi ∧ q < 30 ∧ lo ≤ q ∧ (q - p) % 3 = 0)) := by
  intro n
  induction n with
  | zero =>
    intro acc p q h
    rw [thN]
    constructor
    · exact fun h => .inl h
    · rintro (h1 | h1)
      · exact h1
      · omega
  | succ n ih =>
    intro acc p q h
    rw [thN]
    by_cases h1 : hi ≤ p
    · rw [if_pos h1]
      constructor
      · exact fun h => .inl h
      · rintro (h2 | h2)
        · exact h2
        · omega
    rw [if_neg h1]
    by_cases h2 : 30 ≤ p
    · rw [if_pos h2]
      constructor
      · exact fun h => .inl h
      · rintro (h2 | h2)
        · exact h2
        · omega
    rw [if_neg h2]
    by_cases h3 : p < lo
    · rw [if_pos h3, ih _ _ _ (by omega)]
      constructor
      · rintro (h4 | h4)
        · exact .inl h4
        · exact .inr (by omega)
      · rintro (h4 | h4)
        · exact .inl h4
        · exact .inr (by omega)
    · rw [if_neg h3, ih _ _ _ (by omega), tb_or, tb_sh]
      constructor
      · rintro ((h4 | h4) | h4)
        · exact .inl h4
        · exact .inr (by omega)
        · exact .inr (by omega)
      · rintro (h4 | h4)
        · exact .inl (.inl h4)
        · by_cases h5 : q = p
          · exact .inl (.inr h5)
          · exact .inr (by omega)
theorem thirds_bit (f lo hi q : Nat) : (thirdsN f lo hi).testBit q = true ↔ f % 3 ≤ q ∧ q < hi ∧ q < 30 ∧ lo ≤ q ∧ (q - f % 3) % 3 = 0 := by
  unfold thirdsN
  rw [thN_bit lo hi 1000 0 (f % 3) q (by omega)]
  simp
theorem spN_bit (hi : Nat) : ∀ (n acc p q : Nat), 30 ≤ p + n → ((spN hi n acc p).testBit q = true ↔ acc.testBit q = true ∨ (p ≤ q ∧ q < hi ∧ q < 30)) := by
  intro n
  induction n with
  | zero =>
    intro acc p q h
    rw [spN]
    constructor
    · exact fun h => .inl h
    · rintro (h1 | h1)
      · exact h1
      · omega
  | succ n ih =>
    intro acc p q h
    rw [spN]
    by_cases h1 : hi ≤ p
    · rw [if_pos h1]
      constructor
      · exact fun h => .inl h
      · rintro (h2 | h2)
        · exact h2
        · omega
    rw [if_neg h1]
    by_cases h2 : 30 ≤ p
    · rw [if_pos h2]
      constructor
      · exact fun h => .inl h
      · rintro (h2 | h2)
        · exact h2
        · omega
    rw [if_neg h2, ih _ _ _ (by omega), tb_or, tb_sh]
    constructor
    · rintro ((h4 | h4) | h4)
      · exact .inl h4
      · exact .inr (by omega)
      · exact .inr (by omega)
    · rintro (h4 | h4)
      · exact .inl (.inl h4)
      · by_cases h5 : q = p
        · exact .inl (.inr h5)
        · exact .inr (by omega)
theorem span_bit (lo hi q : Nat) : (spanN lo hi).testBit q = true ↔ lo ≤ q ∧ q < hi ∧ q < 30 := by
  unfold spanN
  rw [spN_bit hi 1000 0 lo q (by omega)]
  simp
theorem modS (y : Nat) {m : Nat} (hm : 0 < m) : (y + 1) % m = if y % m + 1 = m then 0 else y % m + 1 := by
  have h1 := Nat.div_add_mod y m
  have h2 := Nat.mod_lt y hm
  split
  · next h =>
    have e : y + 1 = m * (y / m + 1) := by rw [Nat.mul_add, Nat.mul_one]; omega
    rw [e, Nat.mul_mod_right]
  · next h =>
    have e : y + 1 = m * (y / m) + (y % m + 1) := by omega
    rw [e, Nat.mul_add_mod, Nat.mod_eq_of_lt (by omega)]
theorem divS (y : Nat) {m : Nat} (hm : 0 < m) : (y + 1) / m = if (y + 1) % m = 0 then y / m + 1 else y / m := by
  have h1 := Nat.div_add_mod y m
  have h2 := Nat.mod_lt y hm
  rw [modS y hm]
  by_cases h : y % m + 1 = m
  · rw [if_pos h, if_pos rfl]
    have e : y + 1 = m * (y / m + 1) := by rw [Nat.mul_add, Nat.mul_one]; omega
    rw [e, Nat.mul_div_cancel_left _ hm]
  · rw [if_neg h, if_neg (by omega)]
    apply Nat.div_eq_of_lt_le
    · rw [Nat.mul_comm]; omega
    · rw [Nat.add_mul, Nat.one_mul, Nat.mul_comm]; omega
def cB (f p : Nat) : Nat := (p + 2 - f) / 3
theorem cB_own {f p : Nat} (hf : f < 3) (h : p % 3 = f) : cB f p = p / 3 ∧ cB f (p + 1) = p / 3 + 1 := by
  unfold cB
  omega
theorem cB_not {f p : Nat} (hf : f < 3) (h : ¬ p % 3 = f) : cB f (p + 1) = cB f p := by
  unfold cB
  omega
def uB (a c : Nat) : Nat := (a + 1) - (c + 1) % (a + 2)
theorem uB_0 {a c : Nat} : uB a c = 0 ↔ (c + 2) % (a + 2) = 0 := by
  have h := modS (c + 1) (m := a + 2) (by omega)
  have h2 := Nat.mod_lt (c + 1) (show 0 < a + 2 by omega)
  unfold uB
  rw [h]
  split <;> omega
theorem uB_s {a c : Nat} : uB a (c + 1) = if uB a c = 0 then a + 1 else uB a c - 1 := by
  have h := modS (c + 1) (m := a + 2) (by omega)
  have h2 := Nat.mod_lt (c + 1) (show 0 < a + 2 by omega)
  unfold uB
  rw [h]
  by_cases h3 : (c + 1) % (a + 2) + 1 = a + 2
  · rw [if_pos h3, if_pos (by omega)]
    omega
  · rw [if_neg h3, if_neg (by omega)]
    omega
def kB (a c : Nat) : Nat := c - (c + 1) / (a + 2)
theorem kB_le (a c : Nat) : (c + 1) / (a + 2) ≤ c := by
  have h : (c + 1) / (a + 2) ≤ (c + 1) / 2 := Nat.div_le_div_left (by omega) (by omega)
  omega
theorem kB_s (a c : Nat) : kB a (c + 1) = if (c + 2) % (a + 2) = 0 then kB a c else kB a c + 1 := by
  have h := divS (c + 1) (m := a + 2) (by omega)
  have h2 := kB_le a c
  have h3 := kB_le a (c + 1)
  unfold kB
  rw [h] at h3 ⊢
  split at h3
  · next h4 =>
    rw [if_pos h4, if_pos h4]
    omega
  · next h4 =>
    rw [if_neg h4, if_neg h4]
    omega
theorem msN_bit {m a f n' : Nat} (hf : f < 3) (hn : n' ≤ 30) (hm : ∀ q, m.testBit q = true ↔ q < n' ∧ q % 3 = f) : ∀ (n acc u p q : Nat), 30 ≤ p + n → (p ≤ n' → u = uB a (cB f p)) →
    ((msN m a n acc u p).testBit q = true ↔ acc.testBit q = true ∨ (p ≤ q ∧ q < n' ∧ q % 3 = f ∧ (q / 3 + 2) % (a + 2) ≠ 0)) := by
  intro n
  induction n with
  | zero =>
    intro acc u p q h hu
    rw [msN]
    constructor
    · exact fun h => .inl h
    · rintro (h1 | h1)
      · exact h1
      · omega
  | succ n ih =>
    intro acc u p q h hu
    rw [msN]
    by_cases h2 : 30 ≤ p
    · rw [if_pos h2]
      constructor
      · exact fun h => .inl h
      · rintro (h2 | h2)
        · exact h2
        · omega
    rw [if_neg h2]
    by_cases h3 : m.testBit p = true
    · rw [if_neg (by rw [h3]; decide)]
      obtain ⟨h4, h5⟩ := (hm p).mp h3
      obtain ⟨c1, c2⟩ := cB_own hf h5
      have hu := hu (by omega)
      rw [c1] at hu
      by_cases h6 : u = 0
      · rw [if_pos h6, ih _ _ _ _ (by omega) (fun _ => by rw [c2, uB_s, if_pos (by omega)])]
        have h7 := uB_0.mp (hu.symm.trans h6)
        constructor
        · rintro (h8 | h8)
          · exact .inl h8
          · exact .inr ⟨by omega, h8.2⟩
        · rintro (h8 | h8)
          · exact .inl h8
          · by_cases h9 : q = p
            · subst h9
              exact absurd h7 h8.2.2.2
            · exact .inr ⟨by omega, h8.2⟩
      · rw [if_neg h6, ih _ _ _ _ (by omega) (fun _ => by rw [c2, uB_s, if_neg (by omega), hu]), tb_or, tb_sh]
        have h7 : ¬ (p / 3 + 2) % (a + 2) = 0 := fun e => h6 (hu.trans (uB_0.mpr e))
        constructor
        · rintro ((h8 | h8) | h8)
          · exact .inl h8
          · subst h8
            exact .inr ⟨by omega, h4, h5, h7⟩
          · exact .inr ⟨by omega, h8.2⟩
        · rintro (h8 | h8)
          · exact .inl (.inl h8)
          · by_cases h9 : q = p
            · exact .inl (.inr h9)
            · exact .inr ⟨by omega, h8.2⟩
    · rw [if_pos (by simpa using h3)]
      have h4 : ¬ (p < n' ∧ p % 3 = f) := fun e => h3 ((hm p).mpr e)
      rw [ih _ _ _ _ (by omega) (fun e => by rw [cB_not hf (fun e2 => h4 ⟨by omega, e2⟩)]; exact hu (by omega))]
      constructor
      · rintro (h8 | h8)
        · exact .inl h8
        · exact .inr ⟨by omega, h8.2⟩
      · rintro (h8 | h8)
        · exact .inl h8
        · by_cases h9 : q = p
          · subst h9
            exact absurd ⟨h8.2.1, h8.2.2.1⟩ h4
          · exact .inr ⟨by omega, h8.2⟩
theorem eoN_bit {m a f n' : Nat} (hf : f < 3) (hn : n' ≤ 30) (hm : ∀ q, m.testBit q = true ↔ q < n' ∧ q % 3 = f ∧ (q / 3 + 2) % (a + 2) ≠ 0) : ∀ (n acc b p q : Nat), 30 ≤ p + n → (p ≤ n' → b = 1 - kB a (cB f p) % 2) →
    ((eoN m n acc b p).testBit q = true ↔ acc.testBit q = true ∨ (p ≤ q ∧ (q < n' ∧ q % 3 = f ∧ (q / 3 + 2) % (a + 2) ≠ 0) ∧ kB a (q / 3) % 2 = 0)) := by
  intro n
  induction n with
  | zero =>
    intro acc u p q h hu
    rw [eoN]
    constructor
    · exact fun h => .inl h
    · rintro (h1 | h1)
      · exact h1
      · omega
  | succ n ih =>
    intro acc b p q h hb
    rw [eoN]
    by_cases h2 : 30 ≤ p
    · rw [if_pos h2]
      constructor
      · exact fun h => .inl h
      · rintro (h2 | h2)
        · exact h2
        · omega
    rw [if_neg h2]
    by_cases h3 : m.testBit p = true
    · rw [if_neg (by rw [h3]; decide)]
      have h33 := (hm p).mp h3
      obtain ⟨h4, h5, h6⟩ := h33
      obtain ⟨c1, c2⟩ := cB_own hf h5
      have hb := hb (by omega)
      rw [c1] at hb
      have hk : kB a (cB f (p + 1)) = kB a (p / 3) + 1 := by rw [c2, kB_s, if_neg h6]
      by_cases h7 : b = 0
      · rw [if_pos h7, ih _ _ _ _ (by omega) (fun _ => by rw [hk]; omega)]
        constructor
        · rintro (h8 | h8)
          · exact .inl h8
          · exact .inr ⟨by omega, h8.2⟩
        · rintro (h8 | h8)
          · exact .inl h8
          · by_cases h9 : q = p
            · subst h9
              have := h8.2.2
              omega
            · exact .inr ⟨by omega, h8.2⟩
      · rw [if_neg h7, ih _ _ _ _ (by omega) (fun _ => by rw [hk]; omega), tb_or, tb_sh]
        constructor
        · rintro ((h8 | h8) | h8)
          · exact .inl h8
          · subst h8
            exact .inr ⟨by omega, ⟨h4, h5, h6⟩, by omega⟩
          · exact .inr ⟨by omega, h8.2⟩
        · rintro (h8 | h8)
          · exact .inl (.inl h8)
          · by_cases h9 : q = p
            · exact .inl (.inr h9)
            · exact .inr ⟨by omega, h8.2⟩
    · rw [if_pos (by simpa using h3)]
      have h4 : ¬ (p < n' ∧ p % 3 = f ∧ (p / 3 + 2) % (a + 2) ≠ 0) := fun e => h3 ((hm p).mpr e)
      have hk : p + 1 ≤ n' → kB a (cB f (p + 1)) = kB a (cB f p) := fun e => by
        by_cases h5 : p % 3 = f
        · obtain ⟨c1, c2⟩ := cB_own hf h5
          have h6 : (p / 3 + 2) % (a + 2) = 0 := Decidable.byContradiction fun e2 => h4 ⟨by omega, h5, e2⟩
          rw [c1, c2, kB_s, if_pos h6]
        · rw [cB_not hf h5]
      rw [ih _ _ _ _ (by omega) (fun e => by rw [hk e]; exact hb (by omega))]
      constructor
      · rintro (h8 | h8)
        · exact .inl h8
        · exact .inr ⟨by omega, h8.2⟩
      · rintro (h8 | h8)
        · exact .inl h8
        · by_cases h9 : q = p
          · subst h9
            exact absurd h8.2.1 h4
          · exact .inr ⟨by omega, h8.2⟩
theorem own_bit {f n : Nat} (hf : f < 3) (hn : n ≤ 30) (q : Nat) : (thirdsN f 0 n).testBit q = true ↔ q < n ∧ q % 3 = f := by
  rw [thirds_bit]
  omega
theorem miss_bit {a f n : Nat} (hf : f < 3) (hn : n ≤ 30) (q : Nat) : (missN (thirdsN f 0 n) a).testBit q = true ↔ q < n ∧ q % 3 = f ∧ (q / 3 + 2) % (a + 2) ≠ 0 := by
  unfold missN
  rw [msN_bit hf hn (own_bit hf hn) 1000 0 a 0 q (by omega) (fun _ => ?_)]
  · simp
  · unfold uB cB
    have e : (0 + 2 - f) / 3 = 0 := by omega
    rw [e, Nat.mod_eq_of_lt (by omega)]
    omega
theorem every_bit {a f n : Nat} (hf : f < 3) (hn : n ≤ 30) (q : Nat) : (everyN (missN (thirdsN f 0 n) a)).testBit q = true ↔ (q < n ∧ q % 3 = f ∧ (q / 3 + 2) % (a + 2) ≠ 0) ∧ kB a (q / 3) % 2 = 0 := by
  unfold everyN
  rw [eoN_bit hf hn (miss_bit hf hn) 1000 0 1 0 q (by omega) (fun _ => ?_)]
  · simp
  · unfold kB cB
    have e : (0 + 2 - f) / 3 = 0 := by omega
    rw [e, Nat.div_eq_of_lt (by omega)]
theorem places_bit {k a f n : Nat} (hk : k < 7) (hf : f < 3) (hn : n ≤ 30) (q : Nat) : (placesN k a f n).testBit q = true ↔ q < n ∧ hisP a f q k := by
  rcases (show k = 0 ∨ k = 1 ∨ k = 2 ∨ k = 3 ∨ k = 4 ∨ k = 5 ∨ k = 6 by omega) with h | h | h | h | h | h | h <;> subst h
  · rw [pl0, own_bit hf hn]
    exact Iff.rfl
  · rw [pl1, tb_or, own_bit hf hn, thirds_bit]
    show _ ↔ q < n ∧ (q % 3 = f ∨ (a ≤ q ∧ q % 3 = (f + 1) % 3))
    omega
  · rw [pl2, miss_bit hf hn]
    exact Iff.rfl
  · rw [pl3, tb_or, own_bit hf hn, span_bit]
    show _ ↔ q < n ∧ (q % 3 = f ∨ a ≤ q)
    omega
  · rw [pl4, tb_or, thirds_bit, thirds_bit]
    show _ ↔ q < n ∧ ((q < a ∧ q % 3 = f) ∨ (a ≤ q ∧ q % 3 = (f + 1) % 3))
    by_cases h : n < a
    · rw [if_pos h]
      omega
    · rw [if_neg h]
      omega
  · rw [pl5, every_bit hf hn]
    show _ ↔ q < n ∧ ((q % 3 = f ∧ (q / 3 + 2) % (a + 2) ≠ 0) ∧ kB a (q / 3) % 2 = 0)
    constructor
    · rintro ⟨⟨h1, h2⟩, h3⟩
      exact ⟨h1, h2, h3⟩
    · rintro ⟨h1, h2, h3⟩
      exact ⟨⟨h1, h2⟩, h3⟩
  · rw [pl6, tb_or, tb_or, thirds_bit, thirds_bit, thirds_bit]
    show _ ↔ q < n ∧ ((q < a ∧ q % 3 = f) ∨ (a ≤ q ∧ q < 2 * a ∧ q % 3 = (f + 1) % 3) ∨ (2 * a ≤ q ∧ q % 3 = (f + 2) % 3))
    by_cases h : n < a
    · rw [if_pos h]
      by_cases h2 : n < 2 * a
      · rw [if_pos h2]
        omega
      · omega
    · rw [if_neg h]
      by_cases h2 : n < 2 * a
      · rw [if_pos h2]
        omega
      · rw [if_neg h2]
        omega
/-! what is heard: the reference's road -/
theorem set_bit {x : Int32} {p : Nat} {B : Nat → Prop} (hp : p < 32) (h : ∀ q, q < 32 → (bt x q = true ↔ q < p ∧ B q)) (hb : B p) : ∀ q, q < 32 → (bt (x ||| nI 1 <<< (nI p &&& nI 31)) q = true ↔ q < p + 1 ∧ B q) := by
  intro q hq
  show bt (x ||| (1 : Int32) <<< (nI p &&& 31)) q = true ↔ _
  rw [bt_or, bt_sh hp hq, Bool.or_eq_true, h q hq, decide_eq_true_iff]
  constructor
  · rintro (⟨h1, h2⟩ | rfl)
    · exact ⟨by omega, h2⟩
    · exact ⟨by omega, hb⟩
  · rintro ⟨h1, h2⟩
    by_cases e : q = p
    · exact .inr e
    · exact .inl ⟨by omega, h2⟩
theorem no_bit {x : Int32} {p : Nat} {B : Nat → Prop} (h : ∀ q, q < 32 → (bt x q = true ↔ q < p ∧ B q)) (hb : ¬ B p) : ∀ q, q < 32 → (bt x q = true ↔ q < p + 1 ∧ B q) := by
  intro q hq
  rw [h q hq]
  constructor
  · rintro ⟨h1, h2⟩
    exact ⟨by omega, h2⟩
  · rintro ⟨h1, h2⟩
    by_cases e : q = p
    · subst e
      exact absurd h2 hb
    · exact ⟨by omega, h2⟩
theorem nil_bit {B : Nat → Prop} : ∀ q, q < 32 → (bt (nI 0) q = true ↔ q < 0 ∧ B q) := by
  intro q hq
  rw [show nI 0 = 0 from rfl, bt_0]
  simp
def hisQ (a f L k : Nat) (w : MW) : Int32 → MW → Prop := fun v w' => w' = w ∧ ∀ q, q < 32 → (bt v q = true ↔ q < L ∧ hisP a f q k)
theorem M_his0 (w : MW) {a f L : Nat} (ha : a < 60) (hf : f < 3) (hL : L ≤ 30) (e : w.1 62 10 = nI L) : EI (f_M_his w (nI 0) (nI a) (nI f)) (hisQ a f L 0 w) := by
  unfold f_M_his
  refine lp (σ := Int32) (F := fun n x p => f_M_his_12 n w (nI 0) (nI a) (nI f) x (nI 0) (nI 0) (nI p)) (fun x p => ∀ q, q < 32 → (bt x q = true ↔ q < p ∧ hisP a f q 0)) L 0 (nI 0) nil_bit (by omega) (by omega) ?_ ?_
  · intro n x hb
    show Ev (f_M_his_12 (n + 1) w (nI 0) (nI a) (nI f) x (nI 0) (nI 0) (nI L)) _
    rw [f_M_his_12]
    simp (disch := omega) only [l0, l1, l2, l3, l4, l5, l6, l7, l8, l9, l10, l12, l20, l30, l31, l40, l99, l160, ite_self, nI_add, nI_leI, nI_ltI, nI_eq, nI_clamp, nI_sub', vpb_n, eq_self, implies_true, grd_t, grd_i, if_pos, if_neg, bI_i, bV_n, bx0, bx1, mh0, mh1, rd_s, rd_o, rd_j, rd_2, rdL_1, ↓reduceIte, Bool.false_eq_true, Bool.true_eq_false, Nat.add_eq, Nat.zero_add, Nat.add_zero, not_true_eq_false, not_false_eq_true, e]
    exact Ev.i ⟨rfl, hb⟩
  · intro n x p _ hp hb kk
    show Ev (f_M_his_12 (n + 1) w (nI 0) (nI a) (nI f) x (nI 0) (nI 0) (nI p)) _
    rw [f_M_his_12]
    simp (disch := omega) only [l0, l1, l2, l3, l4, l5, l6, l7, l8, l9, l10, l12, l20, l30, l31, l40, l99, l160, ite_self, nI_add, nI_leI, nI_ltI, nI_eq, nI_clamp, nI_sub', vpb_n, eq_self, implies_true, grd_t, grd_i, if_pos, if_neg, bI_i, bV_n, bx0, bx1, mh0, mh1, rd_s, rd_o, rd_j, rd_2, rdL_1, ↓reduceIte, Bool.false_eq_true, Bool.true_eq_false, Nat.add_eq, Nat.zero_add, Nat.add_zero, not_true_eq_false, not_false_eq_true, e, pk_rem, nI_mul]
    repeat' split
    all_goals first
      | exact kk _ (set_bit (by omega) hb (show p % 3 = f by omega))
      | exact kk _ (no_bit hb (show ¬ (p % 3 = f) by omega))
theorem M_his1 (w : MW) {a f L : Nat} (ha : a < 60) (hf : f < 3) (hL : L ≤ 30) (e : w.1 62 10 = nI L) : EI (f_M_his w (nI 1) (nI a) (nI f)) (hisQ a f L 1 w) := by
  unfold f_M_his
  refine lp (σ := Int32) (F := fun n x p => f_M_his_12 n w (nI 1) (nI a) (nI f) x (nI 0) (nI 0) (nI p)) (fun x p => ∀ q, q < 32 → (bt x q = true ↔ q < p ∧ hisP a f q 1)) L 0 (nI 0) nil_bit (by omega) (by omega) ?_ ?_
  · intro n x hb
    show Ev (f_M_his_12 (n + 1) w (nI 1) (nI a) (nI f) x (nI 0) (nI 0) (nI L)) _
    rw [f_M_his_12]
    simp (disch := omega) only [l0, l1, l2, l3, l4, l5, l6, l7, l8, l9, l10, l12, l20, l30, l31, l40, l99, l160, ite_self, nI_add, nI_leI, nI_ltI, nI_eq, nI_clamp, nI_sub', vpb_n, eq_self, implies_true, grd_t, grd_i, if_pos, if_neg, bI_i, bV_n, bx0, bx1, mh0, mh1, rd_s, rd_o, rd_j, rd_2, rdL_1, ↓reduceIte, Bool.false_eq_true, Bool.true_eq_false, Nat.add_eq, Nat.zero_add, Nat.add_zero, not_true_eq_false, not_false_eq_true, e]
    exact Ev.i ⟨rfl, hb⟩
  · intro n x p _ hp hb kk
    show Ev (f_M_his_12 (n + 1) w (nI 1) (nI a) (nI f) x (nI 0) (nI 0) (nI p)) _
    rw [f_M_his_12]
    simp (disch := omega) only [l0, l1, l2, l3, l4, l5, l6, l7, l8, l9, l10, l12, l20, l30, l31, l40, l99, l160, ite_self, nI_add, nI_leI, nI_ltI, nI_eq, nI_clamp, nI_sub', vpb_n, eq_self, implies_true, grd_t, grd_i, if_pos, if_neg, bI_i, bV_n, bx0, bx1, mh0, mh1, rd_s, rd_o, rd_j, rd_2, rdL_1, ↓reduceIte, Bool.false_eq_true, Bool.true_eq_false, Nat.add_eq, Nat.zero_add, Nat.add_zero, not_true_eq_false, not_false_eq_true, e, pk_rem, nI_mul]
    repeat' split
    all_goals first
      | exact kk _ (set_bit (by omega) hb (show p % 3 = f ∨ (a ≤ p ∧ p % 3 = (f + 1) % 3) by omega))
      | exact kk _ (no_bit hb (show ¬ (p % 3 = f ∨ (a ≤ p ∧ p % 3 = (f + 1) % 3)) by omega))
theorem M_his3 (w : MW) {a f L : Nat} (ha : a < 60) (hf : f < 3) (hL : L ≤ 30) (e : w.1 62 10 = nI L) : EI (f_M_his w (nI 3) (nI a) (nI f)) (hisQ a f L 3 w) := by
  unfold f_M_his
  refine lp (σ := Int32) (F := fun n x p => f_M_his_12 n w (nI 3) (nI a) (nI f) x (nI 0) (nI 0) (nI p)) (fun x p => ∀ q, q < 32 → (bt x q = true ↔ q < p ∧ hisP a f q 3)) L 0 (nI 0) nil_bit (by omega) (by omega) ?_ ?_
  · intro n x hb
    show Ev (f_M_his_12 (n + 1) w (nI 3) (nI a) (nI f) x (nI 0) (nI 0) (nI L)) _
    rw [f_M_his_12]
    simp (disch := omega) only [l0, l1, l2, l3, l4, l5, l6, l7, l8, l9, l10, l12, l20, l30, l31, l40, l99, l160, ite_self, nI_add, nI_leI, nI_ltI, nI_eq, nI_clamp, nI_sub', vpb_n, eq_self, implies_true, grd_t, grd_i, if_pos, if_neg, bI_i, bV_n, bx0, bx1, mh0, mh1, rd_s, rd_o, rd_j, rd_2, rdL_1, ↓reduceIte, Bool.false_eq_true, Bool.true_eq_false, Nat.add_eq, Nat.zero_add, Nat.add_zero, not_true_eq_false, not_false_eq_true, e]
    exact Ev.i ⟨rfl, hb⟩
  · intro n x p _ hp hb kk
    show Ev (f_M_his_12 (n + 1) w (nI 3) (nI a) (nI f) x (nI 0) (nI 0) (nI p)) _
    rw [f_M_his_12]
    simp (disch := omega) only [l0, l1, l2, l3, l4, l5, l6, l7, l8, l9, l10, l12, l20, l30, l31, l40, l99, l160, ite_self, nI_add, nI_leI, nI_ltI, nI_eq, nI_clamp, nI_sub', vpb_n, eq_self, implies_true, grd_t, grd_i, if_pos, if_neg, bI_i, bV_n, bx0, bx1, mh0, mh1, rd_s, rd_o, rd_j, rd_2, rdL_1, ↓reduceIte, Bool.false_eq_true, Bool.true_eq_false, Nat.add_eq, Nat.zero_add, Nat.add_zero, not_true_eq_false, not_false_eq_true, e, pk_rem, nI_mul]
    repeat' split
    all_goals first
      | exact kk _ (set_bit (by omega) hb (show p % 3 = f ∨ a ≤ p by omega))
      | exact kk _ (no_bit hb (show ¬ (p % 3 = f ∨ a ≤ p) by omega))
theorem M_his4 (w : MW) {a f L : Nat} (ha : a < 60) (hf : f < 3) (hL : L ≤ 30) (e : w.1 62 10 = nI L) : EI (f_M_his w (nI 4) (nI a) (nI f)) (hisQ a f L 4 w) := by
  unfold f_M_his
  refine lp (σ := Int32) (F := fun n x p => f_M_his_12 n w (nI 4) (nI a) (nI f) x (nI 0) (nI 0) (nI p)) (fun x p => ∀ q, q < 32 → (bt x q = true ↔ q < p ∧ hisP a f q 4)) L 0 (nI 0) nil_bit (by omega) (by omega) ?_ ?_
  · intro n x hb
    show Ev (f_M_his_12 (n + 1) w (nI 4) (nI a) (nI f) x (nI 0) (nI 0) (nI L)) _
    rw [f_M_his_12]
    simp (disch := omega) only [l0, l1, l2, l3, l4, l5, l6, l7, l8, l9, l10, l12, l20, l30, l31, l40, l99, l160, ite_self, nI_add, nI_leI, nI_ltI, nI_eq, nI_clamp, nI_sub', vpb_n, eq_self, implies_true, grd_t, grd_i, if_pos, if_neg, bI_i, bV_n, bx0, bx1, mh0, mh1, rd_s, rd_o, rd_j, rd_2, rdL_1, ↓reduceIte, Bool.false_eq_true, Bool.true_eq_false, Nat.add_eq, Nat.zero_add, Nat.add_zero, not_true_eq_false, not_false_eq_true, e]
    exact Ev.i ⟨rfl, hb⟩
  · intro n x p _ hp hb kk
    show Ev (f_M_his_12 (n + 1) w (nI 4) (nI a) (nI f) x (nI 0) (nI 0) (nI p)) _
    rw [f_M_his_12]
    simp (disch := omega) only [l0, l1, l2, l3, l4, l5, l6, l7, l8, l9, l10, l12, l20, l30, l31, l40, l99, l160, ite_self, nI_add, nI_leI, nI_ltI, nI_eq, nI_clamp, nI_sub', vpb_n, eq_self, implies_true, grd_t, grd_i, if_pos, if_neg, bI_i, bV_n, bx0, bx1, mh0, mh1, rd_s, rd_o, rd_j, rd_2, rdL_1, ↓reduceIte, Bool.false_eq_true, Bool.true_eq_false, Nat.add_eq, Nat.zero_add, Nat.add_zero, not_true_eq_false, not_false_eq_true, e, pk_rem, nI_mul]
    repeat' split
    all_goals first
      | exact kk _ (set_bit (by omega) hb (show (p < a ∧ p % 3 = f) ∨ (a ≤ p ∧ p % 3 = (f + 1) % 3) by omega))
      | exact kk _ (no_bit hb (show ¬ ((p < a ∧ p % 3 = f) ∨ (a ≤ p ∧ p % 3 = (f + 1) % 3)) by omega))
theorem M_his6 (w : MW) {a f L : Nat} (ha : a < 60) (hf : f < 3) (hL : L ≤ 30) (e : w.1 62 10 = nI L) : EI (f_M_his w (nI 6) (nI a) (nI f)) (hisQ a f L 6 w) := by
  unfold f_M_his
  refine lp (σ := Int32) (F := fun n x p => f_M_his_12 n w (nI 6) (nI a) (nI f) x (nI 0) (nI 0) (nI p)) (fun x p => ∀ q, q < 32 → (bt x q = true ↔ q < p ∧ hisP a f q 6)) L 0 (nI 0) nil_bit (by omega) (by omega) ?_ ?_
  · intro n x hb
    show Ev (f_M_his_12 (n + 1) w (nI 6) (nI a) (nI f) x (nI 0) (nI 0) (nI L)) _
    rw [f_M_his_12]
    simp (disch := omega) only [l0, l1, l2, l3, l4, l5, l6, l7, l8, l9, l10, l12, l20, l30, l31, l40, l99, l160, ite_self, nI_add, nI_leI, nI_ltI, nI_eq, nI_clamp, nI_sub', vpb_n, eq_self, implies_true, grd_t, grd_i, if_pos, if_neg, bI_i, bV_n, bx0, bx1, mh0, mh1, rd_s, rd_o, rd_j, rd_2, rdL_1, ↓reduceIte, Bool.false_eq_true, Bool.true_eq_false, Nat.add_eq, Nat.zero_add, Nat.add_zero, not_true_eq_false, not_false_eq_true, e]
    exact Ev.i ⟨rfl, hb⟩
  · intro n x p _ hp hb kk
    show Ev (f_M_his_12 (n + 1) w (nI 6) (nI a) (nI f) x (nI 0) (nI 0) (nI p)) _
    rw [f_M_his_12]
    simp (disch := omega) only [l0, l1, l2, l3, l4, l5, l6, l7, l8, l9, l10, l12, l20, l30, l31, l40, l99, l160, ite_self, nI_add, nI_leI, nI_ltI, nI_eq, nI_clamp, nI_sub', vpb_n, eq_self, implies_true, grd_t, grd_i, if_pos, if_neg, bI_i, bV_n, bx0, bx1, mh0, mh1, rd_s, rd_o, rd_j, rd_2, rdL_1, ↓reduceIte, Bool.false_eq_true, Bool.true_eq_false, Nat.add_eq, Nat.zero_add, Nat.add_zero, not_true_eq_false, not_false_eq_true, e, pk_rem, nI_mul]
    repeat' split
    all_goals first
      | exact kk _ (set_bit (by omega) hb (show (p < a ∧ p % 3 = f) ∨ (a ≤ p ∧ p < 2 * a ∧ p % 3 = (f + 1) % 3) ∨ (2 * a ≤ p ∧ p % 3 = (f + 2) % 3) by omega))
      | exact kk _ (no_bit hb (show ¬ ((p < a ∧ p % 3 = f) ∨ (a ≤ p ∧ p < 2 * a ∧ p % 3 = (f + 1) % 3) ∨ (2 * a ≤ p ∧ p % 3 = (f + 2) % 3)) by omega))
theorem M_his2 (w : MW) {a f L : Nat} (ha : a < 60) (hf : f < 3) (hL : L ≤ 30) (e : w.1 62 10 = nI L) : EI (f_M_his w (nI 2) (nI a) (nI f)) (hisQ a f L 2 w) := by
  unfold f_M_his
  refine lp (σ := Int32 × Int32 × Int32) (F := fun n s p => f_M_his_12 n w (nI 2) (nI a) (nI f) s.1 s.2.1 s.2.2 (nI p)) (fun s p => (∀ q, q < 32 → (bt s.1 q = true ↔ q < p ∧ hisP a f q 2)) ∧ s.2.1 = nI (cB f p) ∧ s.2.2 = nI (kB a (cB f p))) L 0 (nI 0, nI 0, nI 0) ⟨nil_bit, ?_, ?_⟩ (by omega) (by omega) ?_ ?_
  · show nI 0 = nI _
    congr 1
    unfold cB
    omega
  · show nI 0 = nI _
    have e0 : cB f 0 = 0 := by
      unfold cB
      omega
    rw [e0]
    show nI 0 = nI (0 - _)
    rw [Nat.zero_sub]
  · intro n s hb
    obtain ⟨x, y, z⟩ := s
    show Ev (f_M_his_12 (n + 1) w (nI 2) (nI a) (nI f) x y z (nI L)) _
    rw [f_M_his_12]
    simp (disch := omega) only [l0, l1, l2, l3, l4, l5, l6, l7, l8, l9, l10, l12, l20, l30, l31, l40, l99, l160, ite_self, nI_add, nI_leI, nI_ltI, nI_eq, nI_clamp, nI_sub', vpb_n, eq_self, implies_true, grd_t, grd_i, if_pos, if_neg, bI_i, bV_n, bx0, bx1, mh0, mh1, rd_s, rd_o, rd_j, rd_2, rdL_1, ↓reduceIte, Bool.false_eq_true, Bool.true_eq_false, Nat.add_eq, Nat.zero_add, Nat.add_zero, not_true_eq_false, not_false_eq_true, e]
    exact Ev.i ⟨rfl, hb.1⟩
  · intro n s p _ hp hinv kk
    obtain ⟨x, y, z⟩ := s
    obtain ⟨hb, hy, hz⟩ := hinv
    replace hy : y = _ := hy
    replace hz : z = _ := hz
    subst hy
    subst hz
    show Ev (f_M_his_12 (n + 1) w (nI 2) (nI a) (nI f) x (nI (cB f p)) (nI (kB a (cB f p))) (nI p)) _
    rw [f_M_his_12]
    by_cases own : p % 3 = f
    · obtain ⟨c1, c2⟩ := cB_own hf own
      rw [c1]
      have hkb : kB a (p / 3) ≤ p / 3 := Nat.sub_le _ _
      have hks := kB_s a (p / 3)
      have hmod := Nat.mod_lt (p / 3 - a) (show 0 < a + 2 by omega)
      by_cases h2 : (p / 3 + 2) % (a + 2) = 0
      · have h1 : ¬ p / 3 < a := fun h => by
          rw [Nat.mod_eq_of_lt (by omega)] at h2
          omega
        have h4 : (p / 3 - a) % (a + 2) = 0 := by
          rw [← h2, show p / 3 + 2 = (p / 3 - a) + (a + 2) by omega, Nat.add_mod_right]
        have hk : kB a (p / 3 + 1) = kB a (p / 3) := by rw [hks, if_pos h2]
        simp (disch := omega) only [l0, l1, l2, l3, l4, l5, l6, l7, l8, l9, l10, l12, l20, l30, l31, l40, l99, l160, ite_self, nI_add, nI_leI, nI_ltI, nI_eq, nI_clamp, nI_sub', vpb_n, eq_self, implies_true, grd_t, grd_i, if_pos, if_neg, bI_i, bV_n, bx0, bx1, mh0, mh1, rd_s, rd_o, rd_j, rd_2, rdL_1, ↓reduceIte, Bool.false_eq_true, Bool.true_eq_false, Nat.add_eq, Nat.zero_add, Nat.add_zero, not_true_eq_false, not_false_eq_true, e, pk_rem]
        exact kk (_, _, _) ⟨no_bit hb (show ¬ (p % 3 = f ∧ (p / 3 + 2) % (a + 2) ≠ 0) from fun q => q.2 h2), (by rw [c2] : nI (p / 3 + 1) = nI (cB f (p + 1))), (by rw [c2, hk] : nI (kB a (p / 3)) = nI (kB a (cB f (p + 1))))⟩
      · have hk : kB a (p / 3 + 1) = kB a (p / 3) + 1 := by rw [hks, if_neg h2]
        have h4 : ¬ p / 3 < a → ¬ (p / 3 - a) % (a + 2) = 0 := fun h1 h5 => h2 (by
          rw [show p / 3 + 2 = (p / 3 - a) + (a + 2) by omega, Nat.add_mod_right]
          exact h5)
        by_cases h1 : p / 3 < a
        · simp (disch := omega) only [l0, l1, l2, l3, l4, l5, l6, l7, l8, l9, l10, l12, l20, l30, l31, l40, l99, l160, ite_self, nI_add, nI_leI, nI_ltI, nI_eq, nI_clamp, nI_sub', vpb_n, eq_self, implies_true, grd_t, grd_i, if_pos, if_neg, bI_i, bV_n, bx0, bx1, mh0, mh1, rd_s, rd_o, rd_j, rd_2, rdL_1, ↓reduceIte, Bool.false_eq_true, Bool.true_eq_false, Nat.add_eq, Nat.zero_add, Nat.add_zero, not_true_eq_false, not_false_eq_true, e, pk_rem]
          exact kk (_, _, _) ⟨set_bit (by omega) hb (show p % 3 = f ∧ (p / 3 + 2) % (a + 2) ≠ 0 from ⟨own, h2⟩), (by rw [c2] : nI (p / 3 + 1) = nI (cB f (p + 1))), (by rw [c2, hk] : nI (kB a (p / 3) + 1) = nI (kB a (cB f (p + 1))))⟩
        · have h4 := h4 h1
          simp (disch := omega) only [l0, l1, l2, l3, l4, l5, l6, l7, l8, l9, l10, l12, l20, l30, l31, l40, l99, l160, ite_self, nI_add, nI_leI, nI_ltI, nI_eq, nI_clamp, nI_sub', vpb_n, eq_self, implies_true, grd_t, grd_i, if_pos, if_neg, bI_i, bV_n, bx0, bx1, mh0, mh1, rd_s, rd_o, rd_j, rd_2, rdL_1, ↓reduceIte, Bool.false_eq_true, Bool.true_eq_false, Nat.add_eq, Nat.zero_add, Nat.add_zero, not_true_eq_false, not_false_eq_true, e, pk_rem]
          exact kk (_, _, _) ⟨set_bit (by omega) hb (show p % 3 = f ∧ (p / 3 + 2) % (a + 2) ≠ 0 from ⟨own, h2⟩), (by rw [c2] : nI (p / 3 + 1) = nI (cB f (p + 1))), (by rw [c2, hk] : nI (kB a (p / 3) + 1) = nI (kB a (cB f (p + 1))))⟩
    · have c2 := cB_not hf own
      simp (disch := omega) only [l0, l1, l2, l3, l4, l5, l6, l7, l8, l9, l10, l12, l20, l30, l31, l40, l99, l160, ite_self, nI_add, nI_leI, nI_ltI, nI_eq, nI_clamp, nI_sub', vpb_n, eq_self, implies_true, grd_t, grd_i, if_pos, if_neg, bI_i, bV_n, bx0, bx1, mh0, mh1, rd_s, rd_o, rd_j, rd_2, rdL_1, ↓reduceIte, Bool.false_eq_true, Bool.true_eq_false, Nat.add_eq, Nat.zero_add, Nat.add_zero, not_true_eq_false, not_false_eq_true, e, pk_rem]
      exact kk (_, _, _) ⟨no_bit hb (show ¬ (p % 3 = f ∧ (p / 3 + 2) % (a + 2) ≠ 0) from fun q => own q.1), (by rw [c2] : nI (cB f p) = nI (cB f (p + 1))), (by rw [c2] : nI (kB a (cB f p)) = nI (kB a (cB f (p + 1))))⟩
theorem M_his5 (w : MW) {a f L : Nat} (ha : a < 60) (hf : f < 3) (hL : L ≤ 30) (e : w.1 62 10 = nI L) : EI (f_M_his w (nI 5) (nI a) (nI f)) (hisQ a f L 5 w) := by
  unfold f_M_his
  refine lp (σ := Int32 × Int32 × Int32) (F := fun n s p => f_M_his_12 n w (nI 5) (nI a) (nI f) s.1 s.2.1 s.2.2 (nI p)) (fun s p => (∀ q, q < 32 → (bt s.1 q = true ↔ q < p ∧ hisP a f q 5)) ∧ s.2.1 = nI (cB f p) ∧ s.2.2 = nI (kB a (cB f p))) L 0 (nI 0, nI 0, nI 0) ⟨nil_bit, ?_, ?_⟩ (by omega) (by omega) ?_ ?_
  · show nI 0 = nI _
    congr 1
    unfold cB
    omega
  · show nI 0 = nI _
    have e0 : cB f 0 = 0 := by
      unfold cB
      omega
    rw [e0]
    show nI 0 = nI (0 - _)
    rw [Nat.zero_sub]
  · intro n s hb
    obtain ⟨x, y, z⟩ := s
    show Ev (f_M_his_12 (n + 1) w (nI 5) (nI a) (nI f) x y z (nI L)) _
    rw [f_M_his_12]
    simp (disch := omega) only [l0, l1, l2, l3, l4, l5, l6, l7, l8, l9, l10, l12, l20, l30, l31, l40, l99, l160, ite_self, nI_add, nI_leI, nI_ltI, nI_eq, nI_clamp, nI_sub', vpb_n, eq_self, implies_true, grd_t, grd_i, if_pos, if_neg, bI_i, bV_n, bx0, bx1, mh0, mh1, rd_s, rd_o, rd_j, rd_2, rdL_1, ↓reduceIte, Bool.false_eq_true, Bool.true_eq_false, Nat.add_eq, Nat.zero_add, Nat.add_zero, not_true_eq_false, not_false_eq_true, e]
    exact Ev.i ⟨rfl, hb.1⟩
  · intro n s p _ hp hinv kk
    obtain ⟨x, y, z⟩ := s
    obtain ⟨hb, hy, hz⟩ := hinv
    replace hy : y = _ := hy
    replace hz : z = _ := hz
    subst hy
    subst hz
    show Ev (f_M_his_12 (n + 1) w (nI 5) (nI a) (nI f) x (nI (cB f p)) (nI (kB a (cB f p))) (nI p)) _
    rw [f_M_his_12]
    by_cases own : p % 3 = f
    · obtain ⟨c1, c2⟩ := cB_own hf own
      rw [c1]
      have hkb : kB a (p / 3) ≤ p / 3 := Nat.sub_le _ _
      have hks := kB_s a (p / 3)
      have hmod := Nat.mod_lt (p / 3 - a) (show 0 < a + 2 by omega)
      by_cases h2 : (p / 3 + 2) % (a + 2) = 0
      · have h1 : ¬ p / 3 < a := fun h => by
          rw [Nat.mod_eq_of_lt (by omega)] at h2
          omega
        have h4 : (p / 3 - a) % (a + 2) = 0 := by
          rw [← h2, show p / 3 + 2 = (p / 3 - a) + (a + 2) by omega, Nat.add_mod_right]
        have hk : kB a (p / 3 + 1) = kB a (p / 3) := by rw [hks, if_pos h2]
        simp (disch := omega) only [l0, l1, l2, l3, l4, l5, l6, l7, l8, l9, l10, l12, l20, l30, l31, l40, l99, l160, ite_self, nI_add, nI_leI, nI_ltI, nI_eq, nI_clamp, nI_sub', vpb_n, eq_self, implies_true, grd_t, grd_i, if_pos, if_neg, bI_i, bV_n, bx0, bx1, mh0, mh1, rd_s, rd_o, rd_j, rd_2, rdL_1, ↓reduceIte, Bool.false_eq_true, Bool.true_eq_false, Nat.add_eq, Nat.zero_add, Nat.add_zero, not_true_eq_false, not_false_eq_true, e, pk_rem]
        exact kk (_, _, _) ⟨no_bit hb (show ¬ ((p % 3 = f ∧ (p / 3 + 2) % (a + 2) ≠ 0) ∧ kB a (p / 3) % 2 = 0) from fun q => q.1.2 h2), (by rw [c2] : nI (p / 3 + 1) = nI (cB f (p + 1))), (by rw [c2, hk] : nI (kB a (p / 3)) = nI (kB a (cB f (p + 1))))⟩
      · have hk : kB a (p / 3 + 1) = kB a (p / 3) + 1 := by rw [hks, if_neg h2]
        have h4 : ¬ p / 3 < a → ¬ (p / 3 - a) % (a + 2) = 0 := fun h1 h5 => h2 (by
          rw [show p / 3 + 2 = (p / 3 - a) + (a + 2) by omega, Nat.add_mod_right]
          exact h5)
        by_cases h1 : p / 3 < a
        · by_cases h3 : kB a (p / 3) % 2 = 0
          · simp (disch := omega) only [l0, l1, l2, l3, l4, l5, l6, l7, l8, l9, l10, l12, l20, l30, l31, l40, l99, l160, ite_self, nI_add, nI_leI, nI_ltI, nI_eq, nI_clamp, nI_sub', vpb_n, eq_self, implies_true, grd_t, grd_i, if_pos, if_neg, bI_i, bV_n, bx0, bx1, mh0, mh1, rd_s, rd_o, rd_j, rd_2, rdL_1, ↓reduceIte, Bool.false_eq_true, Bool.true_eq_false, Nat.add_eq, Nat.zero_add, Nat.add_zero, not_true_eq_false, not_false_eq_true, e, pk_rem]
            exact kk (_, _, _) ⟨set_bit (by omega) hb (show (p % 3 = f ∧ (p / 3 + 2) % (a + 2) ≠ 0) ∧ kB a (p / 3) % 2 = 0 from ⟨⟨own, h2⟩, h3⟩), (by rw [c2] : nI (p / 3 + 1) = nI (cB f (p + 1))), (by rw [c2, hk] : nI (kB a (p / 3) + 1) = nI (kB a (cB f (p + 1))))⟩
          · simp (disch := omega) only [l0, l1, l2, l3, l4, l5, l6, l7, l8, l9, l10, l12, l20, l30, l31, l40, l99, l160, ite_self, nI_add, nI_leI, nI_ltI, nI_eq, nI_clamp, nI_sub', vpb_n, eq_self, implies_true, grd_t, grd_i, if_pos, if_neg, bI_i, bV_n, bx0, bx1, mh0, mh1, rd_s, rd_o, rd_j, rd_2, rdL_1, ↓reduceIte, Bool.false_eq_true, Bool.true_eq_false, Nat.add_eq, Nat.zero_add, Nat.add_zero, not_true_eq_false, not_false_eq_true, e, pk_rem]
            exact kk (_, _, _) ⟨no_bit hb (show ¬ ((p % 3 = f ∧ (p / 3 + 2) % (a + 2) ≠ 0) ∧ kB a (p / 3) % 2 = 0) from fun q => h3 q.2), (by rw [c2] : nI (p / 3 + 1) = nI (cB f (p + 1))), (by rw [c2, hk] : nI (kB a (p / 3) + 1) = nI (kB a (cB f (p + 1))))⟩
        · have h4 := h4 h1
          by_cases h3 : kB a (p / 3) % 2 = 0
          · simp (disch := omega) only [l0, l1, l2, l3, l4, l5, l6, l7, l8, l9, l10, l12, l20, l30, l31, l40, l99, l160, ite_self, nI_add, nI_leI, nI_ltI, nI_eq, nI_clamp, nI_sub', vpb_n, eq_self, implies_true, grd_t, grd_i, if_pos, if_neg, bI_i, bV_n, bx0, bx1, mh0, mh1, rd_s, rd_o, rd_j, rd_2, rdL_1, ↓reduceIte, Bool.false_eq_true, Bool.true_eq_false, Nat.add_eq, Nat.zero_add, Nat.add_zero, not_true_eq_false, not_false_eq_true, e, pk_rem]
            exact kk (_, _, _) ⟨set_bit (by omega) hb (show (p % 3 = f ∧ (p / 3 + 2) % (a + 2) ≠ 0) ∧ kB a (p / 3) % 2 = 0 from ⟨⟨own, h2⟩, h3⟩), (by rw [c2] : nI (p / 3 + 1) = nI (cB f (p + 1))), (by rw [c2, hk] : nI (kB a (p / 3) + 1) = nI (kB a (cB f (p + 1))))⟩
          · simp (disch := omega) only [l0, l1, l2, l3, l4, l5, l6, l7, l8, l9, l10, l12, l20, l30, l31, l40, l99, l160, ite_self, nI_add, nI_leI, nI_ltI, nI_eq, nI_clamp, nI_sub', vpb_n, eq_self, implies_true, grd_t, grd_i, if_pos, if_neg, bI_i, bV_n, bx0, bx1, mh0, mh1, rd_s, rd_o, rd_j, rd_2, rdL_1, ↓reduceIte, Bool.false_eq_true, Bool.true_eq_false, Nat.add_eq, Nat.zero_add, Nat.add_zero, not_true_eq_false, not_false_eq_true, e, pk_rem]
            exact kk (_, _, _) ⟨no_bit hb (show ¬ ((p % 3 = f ∧ (p / 3 + 2) % (a + 2) ≠ 0) ∧ kB a (p / 3) % 2 = 0) from fun q => h3 q.2), (by rw [c2] : nI (p / 3 + 1) = nI (cB f (p + 1))), (by rw [c2, hk] : nI (kB a (p / 3) + 1) = nI (kB a (cB f (p + 1))))⟩
    · have c2 := cB_not hf own
      simp (disch := omega) only [l0, l1, l2, l3, l4, l5, l6, l7, l8, l9, l10, l12, l20, l30, l31, l40, l99, l160, ite_self, nI_add, nI_leI, nI_ltI, nI_eq, nI_clamp, nI_sub', vpb_n, eq_self, implies_true, grd_t, grd_i, if_pos, if_neg, bI_i, bV_n, bx0, bx1, mh0, mh1, rd_s, rd_o, rd_j, rd_2, rdL_1, ↓reduceIte, Bool.false_eq_true, Bool.true_eq_false, Nat.add_eq, Nat.zero_add, Nat.add_zero, not_true_eq_false, not_false_eq_true, e, pk_rem]
      exact kk (_, _, _) ⟨no_bit hb (show ¬ ((p % 3 = f ∧ (p / 3 + 2) % (a + 2) ≠ 0) ∧ kB a (p / 3) % 2 = 0) from fun q => own q.1.1), (by rw [c2] : nI (cB f p) = nI (cB f (p + 1))), (by rw [c2] : nI (kB a (cB f p)) = nI (kB a (cB f (p + 1))))⟩
theorem M_hisA (w : MW) {k a f L : Nat} (hk : k < 7) (ha : a < 60) (hf : f < 3) (hL : L ≤ 30) (e : w.1 62 10 = nI L) : f_M_his w (nI k) (nI a) (nI f) = some (some (.int (nI (placesN k a f L))), w) := by
  have h : EI (f_M_his w (nI k) (nI a) (nI f)) (hisQ a f L k w) := by
    rcases (show k = 0 ∨ k = 1 ∨ k = 2 ∨ k = 3 ∨ k = 4 ∨ k = 5 ∨ k = 6 by omega) with h | h | h | h | h | h | h <;> subst h
    · exact M_his0 w ha hf hL e
    · exact M_his1 w ha hf hL e
    · exact M_his2 w ha hf hL e
    · exact M_his3 w ha hf hL e
    · exact M_his4 w ha hf hL e
    · exact M_his5 w ha hf hL e
    · exact M_his6 w ha hf hL e
  obtain ⟨r, w', he, v, rfl, rfl, hb⟩ := h
  rw [he]
  have ev : v = nI (placesN k a f L) := by
    apply bt_ext
    intro i hi
    apply Bool.eq_iff_iff.mpr
    rw [hb i hi, bt_nI, ← places_bit hk hf hL i]
    simp [hi]
  rw [ev]
