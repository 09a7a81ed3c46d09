/-! needs -/
theorem lN_or (a b : Nat) : lN a ||| lN b = lN (a ||| b) := by
  apply Int64.toBitVec_inj.mp
  rw [Int64.toBitVec_or]
  show BitVec.ofNat 64 a ||| BitVec.ofNat 64 b = BitVec.ofNat 64 (a ||| b)
  rw [BitVec.ofNat_or]
theorem lN_and (a b : Nat) : lN a &&& lN b = lN (a &&& b) := by
  apply Int64.toBitVec_inj.mp
  rw [Int64.toBitVec_and]
  show BitVec.ofNat 64 a &&& BitVec.ofNat 64 b = BitVec.ofNat 64 (a &&& b)
  rw [BitVec.ofNat_and]
theorem lush_lN {m p : Nat} (hm : m < 2 ^ 63) (hp : p < 64) : lush (lN m) (nI p) = lN (m >>> p) := by
  have e : (((nI p).toInt64.toUInt64 &&& Int64.toUInt64 63).toBitVec % 64).toNat = p := by
    have key : ∀ p, p < 64 → (((nI p).toInt64.toUInt64 &&& Int64.toUInt64 63).toBitVec % 64).toNat = p := by decide +kernel
    exact key p hp
  apply Int64.toBitVec_inj.mp
  show ((lN m).toUInt64 >>> ((nI p).toInt64.toUInt64 &&& Int64.toUInt64 63)).toBitVec = _
  rw [UInt64.toBitVec_shiftRight, BitVec.ushiftRight_eq', e]
  apply BitVec.eq_of_toNat_eq
  show (BitVec.ofNat 64 m >>> p).toNat = (BitVec.ofNat 64 (m >>> p)).toNat
  have h1 : m >>> p ≤ m := Nat.shiftRight_le _ _
  rw [BitVec.toNat_ushiftRight, BitVec.toNat_ofNat, BitVec.toNat_ofNat, Nat.mod_eq_of_lt (by omega), Nat.mod_eq_of_lt (by omega)]
theorem st8 {m : Nat} (h : m < 2 ^ 40) : st 8 m = cntN (m % 256) 8 + 256 * (cntN (m / 256 % 256) 8 + 256 * (cntN (m / 65536 % 256) 8 + 256 * (cntN (m / 16777216 % 256) 8 + 256 * cntN (m / 4294967296 % 256) 8))) := by
  have e : m = m % 256 + 256 * (m / 256 % 256 + 256 * (m / 65536 % 256 + 256 * (m / 16777216 % 256 + 256 * (m / 4294967296 % 256 + 256 * (0 + 256 * (0 + 256 * (0 + 256 * 0))))))) := by omega
  have z : cntN 0 8 = 0 := cntN_0 8
  rw [show st 8 m = st 8 (m % 256 + 256 * (m / 256 % 256 + 256 * (m / 65536 % 256 + 256 * (m / 16777216 % 256 + 256 * (m / 4294967296 % 256 + 256 * (0 + 256 * (0 + 256 * (0 + 256 * 0)))))))) by rw [← e]]
  rw [st_s (Nat.mod_lt _ (by omega)), st_s (Nat.mod_lt _ (by omega)), st_s (Nat.mod_lt _ (by omega)), st_s (Nat.mod_lt _ (by omega)), st_s (Nat.mod_lt _ (by omega)), st_s (by omega), st_s (by omega), st_s (by omega), st_0, z]
  simp only [Nat.mul_zero, Nat.add_zero]
theorem cnt8 {m : Nat} (h : m < 2 ^ 40) : cntN m 64 = cntN (m % 256) 8 + (cntN (m / 256 % 256) 8 + (cntN (m / 65536 % 256) 8 + (cntN (m / 16777216 % 256) 8 + cntN (m / 4294967296 % 256) 8))) := by
  have e5 : cntN m 64 = cntN m 40 := by
    rw [show (64 : Nat) = 40 + 24 by rfl, cntN_add, Nat.div_eq_of_lt h, cntN_0, Nat.add_zero]
  rw [e5, show (40 : Nat) = 8 + 32 by rfl, cnt_s, show (32 : Nat) = 8 + 24 by rfl, cnt_s, show (24 : Nat) = 8 + 16 by rfl, cnt_s, show (16 : Nat) = 8 + 8 by rfl, cnt_s, Nat.div_div_eq_div_mul, Nat.div_div_eq_div_mul, Nat.div_div_eq_div_mul]
  have e1 : m / (256 * 256) = m / 65536 := rfl
  have e2 : m / (256 * 256 * 256) = m / 16777216 := rfl
  have e3 : m / (256 * 256 * 256 * 256) = m / 4294967296 % 256 := by omega
  rw [e1, e2, e3, Nat.mod_mod]
theorem swar8 {t0 t1 t2 t3 t4 S : Nat} (h0 : t0 ≤ 8) (h1 : t1 ≤ 8) (h2 : t2 ≤ 8) (h3 : t3 ≤ 8) (h4 : t4 ≤ 8) (e : S = t0 + 256 * (t1 + 256 * (t2 + 256 * (t3 + 256 * t4)))) :
    (S + S / 256 + (S + S / 256) / 65536 + (S + S / 256 + (S + S / 256) / 65536) / 4294967296) % 128 = t0 + (t1 + (t2 + (t3 + t4))) := by
  have e1 : S / 256 = t1 + 256 * (t2 + 256 * (t3 + 256 * t4)) := by omega
  have e2 : S + S / 256 = (t0 + t1) + 256 * (t1 + t2) + 65536 * ((t2 + t3) + 256 * (t3 + t4) + 65536 * t4) := by omega
  have e3 : (S + S / 256) / 65536 = (t2 + t3) + 256 * (t3 + t4) + 65536 * t4 := by omega
  have e4 : S + S / 256 + (S + S / 256) / 65536 = ((t0 + t1 + t2 + t3) + 256 * (t1 + t2 + t3 + t4) + 65536 * (t2 + t3 + t4) + 16777216 * (t3 + t4)) + 4294967296 * t4 := by omega
  have e5 : (S + S / 256 + (S + S / 256) / 65536) / 4294967296 = t4 := by omega
  rw [e5, e4]
  omega
theorem JL_cnt (w : MW) {m : Nat} (h : m < 2 ^ 40) : f_JL_bitCount w (lN m) = some (some (.int (nI (cntN m 64))), w) := by
  have c0 : (6148914691236517205 : Int64) = lN (mk8 85 8) := by decide
  have c1 : (3689348814741910323 : Int64) = lN (mk8 51 8) := by decide
  have c2 : (1085102592571150095 : Int64) = lN (mk8 15 8) := by decide
  have u1 : lush (lN m) (1 : Int32) = lN (m >>> 1) := lush_lN (p := 1) (by omega) (by omega)
  have l1 : (m >>> 1) &&& mk8 85 8 ≤ m := Nat.le_trans Nat.and_le_left (Nat.shiftRight_le _ _)
  have b1 : st1 8 m ≤ m := Nat.sub_le _ _
  have s1 : lN m - (lush (lN m) (1 : Int32) &&& 6148914691236517205) = lN (st1 8 m) := by
    rw [u1, c0, lN_and, lN_sub l1]
    rfl
  have u2 : lush (lN (st1 8 m)) (2 : Int32) = lN (st1 8 m >>> 2) := lush_lN (p := 2) (by omega) (by omega)
  have s2 : (lN (st1 8 m) &&& 3689348814741910323) + (lush (lN (st1 8 m)) (2 : Int32) &&& 3689348814741910323) = lN (st2 8 (st1 8 m)) := by
    rw [u2, c1, lN_and, lN_and, lN_add]
    rfl
  have b2 : st2 8 (st1 8 m) < 2 ^ 63 := by
    have q1 : st1 8 m &&& mk8 51 8 ≤ st1 8 m := Nat.and_le_left
    have q2 : (st1 8 m >>> 2) &&& mk8 51 8 ≤ st1 8 m := Nat.le_trans Nat.and_le_left (Nat.shiftRight_le _ _)
    unfold st2
    omega
  have u3 : lush (lN (st2 8 (st1 8 m))) (4 : Int32) = lN (st2 8 (st1 8 m) >>> 4) := lush_lN (p := 4) b2 (by omega)
  have s3 : (lN (st2 8 (st1 8 m)) + lush (lN (st2 8 (st1 8 m))) (4 : Int32)) &&& 1085102592571150095 = lN (st 8 m) := by
    rw [u3, c2, lN_add, lN_and]
    rfl
  have e4 := st8 h
  have d1 := cntN_le 8 (m % 256)
  have d2 := cntN_le 8 (m / 256 % 256)
  have d3 := cntN_le 8 (m / 65536 % 256)
  have d4 := cntN_le 8 (m / 16777216 % 256)
  have d5 := cntN_le 8 (m / 4294967296 % 256)
  have u4 : lush (lN (st 8 m)) (8 : Int32) = lN (st 8 m >>> 8) := lush_lN (p := 8) (by omega) (by omega)
  have q8 : st 8 m >>> 8 = st 8 m / 256 := Nat.shiftRight_eq_div_pow _ _
  have s4 : lN (st 8 m) + lush (lN (st 8 m)) (8 : Int32) = lN (st 8 m + st 8 m / 256) := by rw [u4, lN_add, q8]
  have u5 : lush (lN (st 8 m + st 8 m / 256)) (16 : Int32) = lN ((st 8 m + st 8 m / 256) >>> 16) := lush_lN (p := 16) (by omega) (by omega)
  have q16 : (st 8 m + st 8 m / 256) >>> 16 = (st 8 m + st 8 m / 256) / 65536 := Nat.shiftRight_eq_div_pow _ _
  have s5 : lN (st 8 m + st 8 m / 256) + lush (lN (st 8 m + st 8 m / 256)) (16 : Int32) = lN (st 8 m + st 8 m / 256 + (st 8 m + st 8 m / 256) / 65536) := by rw [u5, lN_add, q16]
  have u6 : lush (lN (st 8 m + st 8 m / 256 + (st 8 m + st 8 m / 256) / 65536)) (32 : Int32) = lN ((st 8 m + st 8 m / 256 + (st 8 m + st 8 m / 256) / 65536) >>> 32) := lush_lN (p := 32) (by omega) (by omega)
  have q32 : (st 8 m + st 8 m / 256 + (st 8 m + st 8 m / 256) / 65536) >>> 32 = (st 8 m + st 8 m / 256 + (st 8 m + st 8 m / 256) / 65536) / 4294967296 := Nat.shiftRight_eq_div_pow _ _
  have s6 : (lN (st 8 m + st 8 m / 256 + (st 8 m + st 8 m / 256) / 65536) + lush (lN (st 8 m + st 8 m / 256 + (st 8 m + st 8 m / 256) / 65536)) (32 : Int32)).toInt32 &&& 127 = nI (cntN m 64) := by
    rw [u6, lN_add, q32, lN_i, show (127 : Int32) = nI 127 from rfl, nI_and]
    have e : (st 8 m + st 8 m / 256 + (st 8 m + st 8 m / 256) / 65536 + (st 8 m + st 8 m / 256 + (st 8 m + st 8 m / 256) / 65536) / 4294967296) &&& 127 = (st 8 m + st 8 m / 256 + (st 8 m + st 8 m / 256) / 65536 + (st 8 m + st 8 m / 256 + (st 8 m + st 8 m / 256) / 65536) / 4294967296) % 128 := Nat.and_two_pow_sub_one_eq_mod _ 7
    rw [e, cnt8 h, swar8 d1 d2 d3 d4 d5 e4]
  unfold f_JL_bitCount
  rw [s1, s2, s3, s4, s5, s6]
theorem cnt_or : ∀ (n z e : Nat), e < n → cntN (z ||| 2 ^ e) n = cntN z n + if z.testBit e = true then 0 else 1 := by
  intro n
  induction n with
  | zero => intro z e h; omega
  | succ n ih =>
    intro z e h
    rw [cntN, cntN, Nat.or_div_two]
    cases e with
    | zero =>
      have h1 : (z ||| 2 ^ 0) % 2 = 1 := by
        have : (z ||| 2 ^ 0).testBit 0 = true := by rw [Nat.testBit_or]; simp
        rw [Nat.testBit_zero] at this
        simpa using this
      have h2 : 2 ^ 0 / 2 = 0 := by decide
      rw [h1, h2, Nat.or_zero]
      have h3 : z.testBit 0 = decide (z % 2 = 1) := Nat.testBit_zero z
      rw [h3]
      by_cases q : z % 2 = 1
      · simp [q] <;> omega
      · have : z % 2 = 0 := by omega
        simp [this] <;> omega
    | succ e =>
      have h1 : (z ||| 2 ^ (e + 1)) % 2 = z % 2 := by
        have e1 : (z ||| 2 ^ (e + 1)).testBit 0 = z.testBit 0 := by
          rw [Nat.testBit_or, Nat.testBit_two_pow]
          simp
        rw [Nat.testBit_zero, Nat.testBit_zero] at e1
        have := decide_eq_decide.mp e1
        omega
      have h2 : 2 ^ (e + 1) / 2 = 2 ^ e := by
        rw [Nat.pow_succ, Nat.mul_div_cancel _ (by omega)]
      rw [h1, h2, ih (z / 2) e (by omega), Nat.testBit_succ]
      omega
def seen (F e : Nat → Nat) (f v : Nat) : Nat → Bool
  | 0 => false
  | o + 1 => seen F e f v o || (decide (F o = f) && decide (e o = v))
def dcN (F e : Nat → Nat) (f : Nat) : Nat → Nat
  | 0 => 0
  | m + 1 => dcN F e f m + if F m = f ∧ seen F e f (e m) m = false then 1 else 0
def zmN (F e : Nat → Nat) (f : Nat) : Nat → Nat
  | 0 => 0
  | m + 1 => if F m = f then zmN F e f m ||| 2 ^ (e m) else zmN F e f m
theorem zm_bit (F e : Nat → Nat) (f v : Nat) : ∀ m, (zmN F e f m).testBit v = seen F e f v m := by
  intro m
  induction m with
  | zero => rw [zmN, seen]; simp
  | succ m ih =>
    rw [zmN, seen, ← ih]
    by_cases q : F m = f
    · rw [if_pos q, Nat.testBit_or, Nat.testBit_two_pow]
      simp [q]
    · rw [if_neg q]
      simp [q]
theorem zm_cnt {F e : Nat → Nat} (f : Nat) : ∀ m, (∀ i, i < m → e i < 40) → cntN (zmN F e f m) 64 = dcN F e f m := by
  intro m
  induction m with
  | zero => intro _; rw [zmN, dcN, cntN_0]
  | succ m ih =>
    intro he
    have ih := ih (fun i hi => he i (by omega))
    rw [zmN, dcN]
    by_cases q : F m = f
    · rw [if_pos q, cnt_or 64 _ _ (by have := he m (by omega); omega), ih, zm_bit]
      by_cases q2 : seen F e f (e m) m = true
      · rw [if_pos q2, if_neg (by rw [q2]; simp)]
      · rw [if_neg q2, if_pos ⟨q, by simpa using q2⟩]
    · rw [if_neg q, if_neg (fun z => q z.1), ih, Nat.add_zero]
theorem zm_lt {F e : Nat → Nat} (f : Nat) : ∀ m, (∀ i, i < m → e i < 40) → zmN F e f m < 2 ^ 40 := by
  intro m
  induction m with
  | zero => intro _; rw [zmN]; omega
  | succ m ih =>
    intro he
    rw [zmN]
    split
    · exact Nat.or_lt_two_pow (ih (fun i hi => he i (by omega))) (Nat.pow_lt_pow_right (by omega) (he m (by omega)))
    · exact ih (fun i hi => he i (by omega))
theorem dc_le (F e : Nat → Nat) (f : Nat) : ∀ m, dcN F e f m ≤ m := by
  intro m
  induction m with
  | zero => exact Nat.le_refl _
  | succ m ih =>
    rw [dcN]
    split <;> omega
theorem sh64 {e : Nat} (h : e < 40) : (Int64.ofNat 1) <<< ((nI e).toInt64 &&& 63) = lN (2 ^ e) := by
  have key : ∀ e, e < 40 → (Int64.ofNat 1) <<< ((nI e).toInt64 &&& 63) = lN (2 ^ e) := by decide +kernel
  exact key e h
def lgV (d f l : Nat) : Nat := if d = 0 then l else if l < f + 3 * (d - 1) + 1 then f + 3 * (d - 1) + 1 else l
def ndV (d0 d1 d2 : Nat) : Nat := if mx3 d0 d1 d2 ≤ d2 then 3 * mx3 d0 d1 d2 else if mx3 d0 d1 d2 ≤ d1 then 3 * mx3 d0 d1 d2 - 1 else 3 * mx3 d0 d1 d2 - 2
theorem nd_eq {d0 d1 d2 : Nat} (h0 : d0 ≤ 8) (h1 : d1 ≤ 8) (h2 : d2 ≤ 8) : lgV d2 2 (lgV d1 1 (lgV d0 0 0)) = ndV d0 d1 d2 := by
  have key : ∀ d0, d0 < 9 → ∀ d1, d1 < 9 → ∀ d2, d2 < 9 → lgV d2 2 (lgV d1 1 (lgV d0 0 0)) = ndV d0 d1 d2 := by decide +kernel
  exact key d0 (by omega) d1 (by omega) d2 (by omega)
theorem X_shortest {w : MW} {n L s len : Nat} {K A F e : Nat → Nat} {M S : Nat → Int32} (rx : RX 1 w n L K A F M S) (ok : OK n L K A F) (hs8 : s < 8) (hl : len ≤ 160) (el : w.1 (35 + 2 * s) 1 = nI len) (hnl : n ≤ len) (hE : ∀ i, i < n → (w.2.1 (35 + 2 * s + 1) i).toInt32 = nI (e i)) (he : ∀ i, i < n → e i < 40) :
    EI (f_Cl_shortestFor w 1 (35 + 2 * s)) (fun v w' => v = nI (lgV (dcN F e 2 n) 2 (lgV (dcN F e 1 n) 1 (lgV (dcN F e 0 n) 0 0))) ∧ w' = w) := by
  have hn := ok.1
  unfold f_Cl_shortestFor
  have hb : ∀ d f l, d ≤ 8 → f ≤ 2 → l ≤ 30 → lgV d f l ≤ 30 := by
    intro d f l h1 h2 h3
    unfold lgV
    split
    · exact h3
    split <;> omega
  have hd : ∀ f, dcN F e f n ≤ 8 := fun f => Nat.le_trans (dc_le F e f n) hn
  refine lp (σ := Nat) (F := fun m l f => f_Cl_shortestFor_5 1 (35 + 2 * s) m w (nI l) (nI f)) (fun l f => l ≤ 30 ∧ ((f = 0 ∧ l = 0) ∨ (f = 1 ∧ l = lgV (dcN F e 0 n) 0 0) ∨ (f = 2 ∧ l = lgV (dcN F e 1 n) 1 (lgV (dcN F e 0 n) 0 0)) ∨ (f = 3 ∧ l = lgV (dcN F e 2 n) 2 (lgV (dcN F e 1 n) 1 (lgV (dcN F e 0 n) 0 0))))) 3 0 0 ⟨by omega, .inl ⟨rfl, rfl⟩⟩ (by omega) (by omega) ?_ ?_
  · intro m l hi
    obtain ⟨_, hi⟩ := hi
    show Ev (f_Cl_shortestFor_5 1 (35 + 2 * s) (m + 1) w (nI l) (nI 3)) _
    rw [f_Cl_shortestFor_5]
    simp (disch := omega) only [k0, k1, k2, k3, k4, k5, k6, k7, k8, k9, k10, k12, k20, k30, k31, k40, k99, k160, ite_self, nI_add, nI_leI, nI_ltI, nI_eq, nI_clamp, nI_sub', nI_mul, vpb_n, eq_self, implies_true, grd_t, grd_i, if_pos, if_neg, bI_k, bV_k, bx0, bx1, mh0, mh1, rd_s, rd_o, rd_j, rd_2k, rdL_1k, ↓reduceIte, Bool.false_eq_true, Bool.true_eq_false, Nat.add_eq, Nat.zero_add, Nat.add_zero, not_true_eq_false, not_false_eq_true]
    rcases hi with ⟨q, _⟩ | ⟨q, _⟩ | ⟨q, _⟩ | ⟨_, q⟩
    · omega
    · omega
    · omega
    · exact Ev.i ⟨by rw [q], rfl⟩
  · intro m l f _ hf hinv kk
    obtain ⟨hl30, hinv⟩ := hinv
    show Ev (f_Cl_shortestFor_5 1 (35 + 2 * s) (m + 1) w (nI l) (nI f)) _
    rw [f_Cl_shortestFor_5]
    simp (disch := omega) only [k0, k1, k2, k3, k4, k5, k6, k7, k8, k9, k10, k12, k20, k30, k31, k40, k99, k160, ite_self, nI_add, nI_leI, nI_ltI, nI_eq, nI_clamp, nI_sub', nI_mul, vpb_n, eq_self, implies_true, grd_t, grd_i, if_pos, if_neg, bI_k, bV_k, bx0, bx1, mh0, mh1, rd_s, rd_o, rd_j, rd_2k, rdL_1k, ↓reduceIte, Bool.false_eq_true, Bool.true_eq_false, Nat.add_eq, Nat.zero_add, Nat.add_zero, not_true_eq_false, not_false_eq_true]
    refine lp (σ := Unit) (F := fun q _ i => f_Cl_shortestFor_17 1 (35 + 2 * s) _ q w (nI l) (nI f) (lN (zmN F e f i)) (nI i)) (fun _ _ => True) n 0 () trivial (by omega) (by omega) ?_ ?_
    · intro q _ _
      show Ev (f_Cl_shortestFor_17 1 (35 + 2 * s) _ (q + 1) w (nI l) (nI f) (lN (zmN F e f n)) (nI n)) _
      have hdf := hd f
      rw [f_Cl_shortestFor_17, rx.1, JL_cnt w (zm_lt f n he), zm_cnt f n he]
      have kn : ∀ l', l' = lgV (dcN F e f n) f l → Ev (f_Cl_shortestFor_5 1 (35 + 2 * s) m w (nI l') (nI (f + 1))) _ := fun l' q => kk l' ⟨by rw [q]; exact hb _ _ _ hdf (by omega) hl30, by
        rcases hinv with ⟨rfl, rfl⟩ | ⟨rfl, r⟩ | ⟨rfl, r⟩ | ⟨r, _⟩
        · exact .inr (.inl ⟨rfl, q⟩)
        · exact .inr (.inr (.inl ⟨rfl, by rw [q, r]⟩))
        · exact .inr (.inr (.inr ⟨rfl, by rw [q, r]⟩))
        · omega⟩
      by_cases c0 : dcN F e f n = 0
      · simp (disch := omega) only [k0, k1, k2, k3, k4, k5, k6, k7, k8, k9, k10, k12, k20, k30, k31, k40, k99, k160, ite_self, nI_add, nI_leI, nI_ltI, nI_eq, nI_clamp, nI_sub', nI_mul, vpb_n, eq_self, implies_true, grd_t, grd_i, if_pos, if_neg, bI_k, bV_k, bx0, bx1, mh0, mh1, rd_s, rd_o, rd_j, rd_2k, rdL_1k, ↓reduceIte, Bool.false_eq_true, Bool.true_eq_false, Nat.add_eq, Nat.zero_add, Nat.add_zero, not_true_eq_false, not_false_eq_true]
        exact kn l (by unfold lgV; rw [if_pos c0])
      · by_cases c1 : l < f + 3 * (dcN F e f n - 1) + 1
        · simp (disch := omega) only [k0, k1, k2, k3, k4, k5, k6, k7, k8, k9, k10, k12, k20, k30, k31, k40, k99, k160, ite_self, nI_add, nI_leI, nI_ltI, nI_eq, nI_clamp, nI_sub', nI_mul, vpb_n, eq_self, implies_true, grd_t, grd_i, if_pos, if_neg, bI_k, bV_k, bx0, bx1, mh0, mh1, rd_s, rd_o, rd_j, rd_2k, rdL_1k, ↓reduceIte, Bool.false_eq_true, Bool.true_eq_false, Nat.add_eq, Nat.zero_add, Nat.add_zero, not_true_eq_false, not_false_eq_true]
          exact kn (f + 3 * (dcN F e f n - 1) + 1) (by unfold lgV; rw [if_neg c0, if_pos c1])
        · simp (disch := omega) only [k0, k1, k2, k3, k4, k5, k6, k7, k8, k9, k10, k12, k20, k30, k31, k40, k99, k160, ite_self, nI_add, nI_leI, nI_ltI, nI_eq, nI_clamp, nI_sub', nI_mul, vpb_n, eq_self, implies_true, grd_t, grd_i, if_pos, if_neg, bI_k, bV_k, bx0, bx1, mh0, mh1, rd_s, rd_o, rd_j, rd_2k, rdL_1k, ↓reduceIte, Bool.false_eq_true, Bool.true_eq_false, Nat.add_eq, Nat.zero_add, Nat.add_zero, not_true_eq_false, not_false_eq_true]
          exact kn l (by unfold lgV; rw [if_neg c0, if_neg c1])
    · intro q _ i _ hi _ k2'
      have k3' := k2' () trivial
      obtain ⟨a1, a2, a3, a4⟩ := rx.2.2.1 i hi
      obtain ⟨b1, b2, b3⟩ := ok.2.2 i hi
      show Ev (f_Cl_shortestFor_17 1 (35 + 2 * s) _ (q + 1) w (nI l) (nI f) (lN (zmN F e f i)) (nI i)) _
      rw [f_Cl_shortestFor_17, rx.1, asInt_e (E := fun i => nI (e i)) el hl (hE i hi) (by omega)]
      replace k3' : Ev (f_Cl_shortestFor_17 1 (35 + 2 * s) _ q w (nI l) (nI f) (lN (if F i = f then zmN F e f i ||| 2 ^ (e i) else zmN F e f i)) (nI (i + 1))) _ := k3'
      have es := sh64 (he i hi)
      by_cases c : F i = f
      · rw [if_pos c, ← lN_or, ← es] at k3'
        simp (disch := omega) only [k0, k1, k2, k3, k4, k5, k6, k7, k8, k9, k10, k12, k20, k30, k31, k40, k99, k160, ite_self, nI_add, nI_leI, nI_ltI, nI_eq, nI_clamp, nI_sub', nI_mul, vpb_n, eq_self, implies_true, grd_t, grd_i, if_pos, if_neg, bI_k, bV_k, bx0, bx1, mh0, mh1, rd_s, rd_o, rd_j, rd_2k, rdL_1k, ↓reduceIte, Bool.false_eq_true, Bool.true_eq_false, Nat.add_eq, Nat.zero_add, Nat.add_zero, not_true_eq_false, not_false_eq_true, a3, el, c]
        exact k3'
      · rw [if_neg c] at k3'
        simp (disch := omega) only [k0, k1, k2, k3, k4, k5, k6, k7, k8, k9, k10, k12, k20, k30, k31, k40, k99, k160, ite_self, nI_add, nI_leI, nI_ltI, nI_eq, nI_clamp, nI_sub', nI_mul, vpb_n, eq_self, implies_true, grd_t, grd_i, if_pos, if_neg, bI_k, bV_k, bx0, bx1, mh0, mh1, rd_s, rd_o, rd_j, rd_2k, rdL_1k, ↓reduceIte, Bool.false_eq_true, Bool.true_eq_false, Nat.add_eq, Nat.zero_add, Nat.add_zero, not_true_eq_false, not_false_eq_true, a3, el]
        exact k3'
theorem M_wanted {w : MW} {n L s f : Nat} {K A F e : Nat → Nat} {M S : Nat → Int32} (rm : RM w n L K A F M S) (ok : OK n L K A F) (hs8 : s < 8) (hE : ∀ i, i < n → (w.2.1 65 (160 * s + i)).toInt32 = nI (e i)) (he : ∀ i, i < n → e i < 40) (hf : f < 3) :
    f_M_wanted w (nI s) (nI f) = some (some (.int (nI (dcN F e f n))), w) := by
  have hn := ok.1
  unfold f_M_wanted
  have h : EI (f_M_wanted_5 FU w (nI s) (nI f) (nI 0) (nI 0)) (fun v w' => v = nI (dcN F e f n) ∧ w' = w) := by
    refine lp (σ := Unit) (F := fun m _ i => f_M_wanted_5 m w (nI s) (nI f) (nI (dcN F e f i)) (nI i)) (fun _ _ => True) n 0 () trivial (by omega) (by omega) ?_ ?_
    · intro m _ _
      show Ev (f_M_wanted_5 (m + 1) w (nI s) (nI f) (nI (dcN F e f n)) (nI n)) _
      rw [f_M_wanted_5, rm.1]
      simp (disch := omega) only [k0, k1, k2, k3, k4, k5, k6, k7, k8, k9, k10, k12, k20, k30, k31, k40, k99, k160, ite_self, nI_add, nI_leI, nI_ltI, nI_eq, nI_clamp, nI_sub', nI_mul, vpb_n, eq_self, implies_true, grd_t, grd_i, if_pos, if_neg, bI_k, bV_k, bx0, bx1, mh0, mh1, rd_s, rd_o, rd_j, rd_2k, rdL_1k, ↓reduceIte, Bool.false_eq_true, Bool.true_eq_false, Nat.add_eq, Nat.zero_add, Nat.add_zero, not_true_eq_false, not_false_eq_true]
      exact Ev.i ⟨rfl, rfl⟩
    · intro m _ i _ hi _ kk
      have kk := kk () trivial
      replace kk : Ev (f_M_wanted_5 m w (nI s) (nI f) (nI (dcN F e f i + if F i = f ∧ seen F e f (e i) i = false then 1 else 0)) (nI (i + 1))) _ := kk
      obtain ⟨a1, a2, a3, a4⟩ := rm.2.2.1 i hi
      obtain ⟨b1, b2, b3⟩ := ok.2.2 i hi
      have inner : ∀ z, z = (if F i = f then 1 else 0) → Ev (f_M_wanted_35 (fun w x1 x2 x3 x4 => f_M_wanted_5 m w x1 x2 x3 x4) FU w (nI s) (nI f) (nI (dcN F e f i)) (nI i) (nI z) (nI 0)) (pI fun v w' => v = nI (dcN F e f n) ∧ w' = w) := by
        intro z hz
        refine lp (σ := Nat) (F := fun q z o => f_M_wanted_35 (fun w x1 x2 x3 x4 => f_M_wanted_5 m w x1 x2 x3 x4) q w (nI s) (nI f) (nI (dcN F e f i)) (nI i) (nI z) (nI o)) (fun z o => z = if F i = f ∧ seen F e f (e i) o = false then 1 else 0) i 0 z (by rw [hz]; simp [seen]) (by omega) (by omega) ?_ ?_
        · intro q z hz
          show Ev (f_M_wanted_35 _ (q + 1) w (nI s) (nI f) (nI (dcN F e f i)) (nI i) (nI z) (nI i)) _
          rw [f_M_wanted_35]
          rw [← hz] at kk
          by_cases c : F i = f ∧ seen F e f (e i) i = false
          · rw [if_pos c] at hz
            subst hz
            simp (disch := omega) only [k0, k1, k2, k3, k4, k5, k6, k7, k8, k9, k10, k12, k20, k30, k31, k40, k99, k160, ite_self, nI_add, nI_leI, nI_ltI, nI_eq, nI_clamp, nI_sub', nI_mul, vpb_n, eq_self, implies_true, grd_t, grd_i, if_pos, if_neg, bI_k, bV_k, bx0, bx1, mh0, mh1, rd_s, rd_o, rd_j, rd_2k, rdL_1k, ↓reduceIte, Bool.false_eq_true, Bool.true_eq_false, Nat.add_eq, Nat.zero_add, Nat.add_zero, not_true_eq_false, not_false_eq_true]
            exact kk
          · rw [if_neg c] at hz
            subst hz
            simp (disch := omega) only [k0, k1, k2, k3, k4, k5, k6, k7, k8, k9, k10, k12, k20, k30, k31, k40, k99, k160, ite_self, nI_add, nI_leI, nI_ltI, nI_eq, nI_clamp, nI_sub', nI_mul, vpb_n, eq_self, implies_true, grd_t, grd_i, if_pos, if_neg, bI_k, bV_k, bx0, bx1, mh0, mh1, rd_s, rd_o, rd_j, rd_2k, rdL_1k, ↓reduceIte, Bool.false_eq_true, Bool.true_eq_false, Nat.add_eq, Nat.zero_add, Nat.add_zero, not_true_eq_false, not_false_eq_true]
            exact kk
        · intro q z o _ ho hz k2'
          obtain ⟨c1, c2, c3, c4⟩ := rm.2.2.1 o (by omega)
          obtain ⟨d1, d2, d3⟩ := ok.2.2 o (by omega)
          have t1 : v_M_told w (nI s) (nI o) = nI (e o) := (told_e hs8 (by omega)).trans (hE o (by omega))
          have t2 : v_M_told w (nI s) (nI i) = nI (e i) := (told_e hs8 (by omega)).trans (hE i hi)
          have eo := he o (by omega)
          have ei := he i hi
          show Ev (f_M_wanted_35 _ (q + 1) w (nI s) (nI f) (nI (dcN F e f i)) (nI i) (nI z) (nI o)) _
          rw [f_M_wanted_35, t1, t2]
          by_cases p1 : F o = f
          · by_cases p2 : e o = e i
            · simp (disch := omega) only [k0, k1, k2, k3, k4, k5, k6, k7, k8, k9, k10, k12, k20, k30, k31, k40, k99, k160, ite_self, nI_add, nI_leI, nI_ltI, nI_eq, nI_clamp, nI_sub', nI_mul, vpb_n, eq_self, implies_true, grd_t, grd_i, if_pos, if_neg, bI_k, bV_k, bx0, bx1, mh0, mh1, rd_s, rd_o, rd_j, rd_2k, rdL_1k, ↓reduceIte, Bool.false_eq_true, Bool.true_eq_false, Nat.add_eq, Nat.zero_add, Nat.add_zero, not_true_eq_false, not_false_eq_true, c3, p1, p2]
              exact k2' 0 (by rw [seen]; simp [p1, p2])
            · simp (disch := omega) only [k0, k1, k2, k3, k4, k5, k6, k7, k8, k9, k10, k12, k20, k30, k31, k40, k99, k160, ite_self, nI_add, nI_leI, nI_ltI, nI_eq, nI_clamp, nI_sub', nI_mul, vpb_n, eq_self, implies_true, grd_t, grd_i, if_pos, if_neg, bI_k, bV_k, bx0, bx1, mh0, mh1, rd_s, rd_o, rd_j, rd_2k, rdL_1k, ↓reduceIte, Bool.false_eq_true, Bool.true_eq_false, Nat.add_eq, Nat.zero_add, Nat.add_zero, not_true_eq_false, not_false_eq_true, c3, p1]
              exact k2' z (by rw [hz, seen]; simp [p1, p2])
          · simp (disch := omega) only [k0, k1, k2, k3, k4, k5, k6, k7, k8, k9, k10, k12, k20, k30, k31, k40, k99, k160, ite_self, nI_add, nI_leI, nI_ltI, nI_eq, nI_clamp, nI_sub', nI_mul, vpb_n, eq_self, implies_true, grd_t, grd_i, if_pos, if_neg, bI_k, bV_k, bx0, bx1, mh0, mh1, rd_s, rd_o, rd_j, rd_2k, rdL_1k, ↓reduceIte, Bool.false_eq_true, Bool.true_eq_false, Nat.add_eq, Nat.zero_add, Nat.add_zero, not_true_eq_false, not_false_eq_true, c3]
            exact k2' z (by rw [hz, seen]; simp [p1])
      show Ev (f_M_wanted_5 (m + 1) w (nI s) (nI f) (nI (dcN F e f i)) (nI i)) _
      rw [f_M_wanted_5, rm.1]
      by_cases c : F i = f
      · simp (disch := omega) only [k0, k1, k2, k3, k4, k5, k6, k7, k8, k9, k10, k12, k20, k30, k31, k40, k99, k160, ite_self, nI_add, nI_leI, nI_ltI, nI_eq, nI_clamp, nI_sub', nI_mul, vpb_n, eq_self, implies_true, grd_t, grd_i, if_pos, if_neg, bI_k, bV_k, bx0, bx1, mh0, mh1, rd_s, rd_o, rd_j, rd_2k, rdL_1k, ↓reduceIte, Bool.false_eq_true, Bool.true_eq_false, Nat.add_eq, Nat.zero_add, Nat.add_zero, not_true_eq_false, not_false_eq_true, a3, c]
        exact inner 1 (by rw [if_pos c])
      · simp (disch := omega) only [k0, k1, k2, k3, k4, k5, k6, k7, k8, k9, k10, k12, k20, k30, k31, k40, k99, k160, ite_self, nI_add, nI_leI, nI_ltI, nI_eq, nI_clamp, nI_sub', nI_mul, vpb_n, eq_self, implies_true, grd_t, grd_i, if_pos, if_neg, bI_k, bV_k, bx0, bx1, mh0, mh1, rd_s, rd_o, rd_j, rd_2k, rdL_1k, ↓reduceIte, Bool.false_eq_true, Bool.true_eq_false, Nat.add_eq, Nat.zero_add, Nat.add_zero, not_true_eq_false, not_false_eq_true, a3]
        exact inner 0 (by rw [if_neg c])
  obtain ⟨r, w', e, v, rfl, rfl, rfl⟩ := h
  exact e
theorem mx_nI8 {a b c : Nat} (ha : a ≤ 8) (hb : b ≤ 8) (hc : c ≤ 8) : (if nI a < (if nI b < nI c then nI c else nI b) then (if nI b < nI c then nI c else nI b) else nI a) = nI (mx3 a b c) ∧ mx3 a b c ≤ 8 := by
  unfold mx3
  have e : (if nI b < nI c then nI c else nI b) = nI (if b < c then c else b) := by
    by_cases q : b < c
    · rw [if_pos q, if_pos (nI_lt q (by omega))]
    · rw [if_neg q, if_neg (nI_nlt (by omega) (by omega))]
  rw [e]
  have hle : (if b < c then c else b) ≤ 8 := by split <;> omega
  generalize (if b < c then c else b) = d at hle ⊢
  by_cases q : a < d
  · rw [if_pos q, if_pos (nI_lt q (by omega))]
    exact ⟨rfl, hle⟩
  · rw [if_neg q, if_neg (nI_nlt (by omega) (by omega))]
    exact ⟨rfl, ha⟩
theorem sim_needs (x1 : Int32) : SIM (fun w => f_X_needs w x1) (fun w => f_M_needs w x1) := by
  intro sc N w h
  have h0 := h
  obtain ⟨⟨n, L, K, A, F, M, S, g1, g2⟩, g3, g4, g5, g6⟩ := h0
  have hn := g1.2.2.1.1
  have ok := g1.2.2.1
  show EI (f_X_needs w x1) (fun v w1 => EI (f_M_needs w1 x1) (fun v' w2 => v' = v ∧ Inv sc N w2))
  unfold f_X_needs
  rcases row_cases hn g2 x1 with ⟨c, h1, h2, h3, h4⟩ | ⟨s, t, len, hs8, rfl, hr, h3, h4⟩
  · have e1 := noRow_c (w := w) (w' := u_X_refuse w (-nI c)) (xr_o (by omega)) x1
    rw [h4] at e1
    simp (disch := omega) only [k0, k1, k2, k3, k4, k5, k6, k7, k8, k9, k10, k12, k20, k30, k31, k40, k99, k160, ite_self, nI_add, nI_leI, nI_ltI, nI_eq, nI_clamp, nI_sub', nI_mul, vpb_n, eq_self, implies_true, grd_t, grd_i, if_pos, if_neg, bI_k, bV_k, bx0, bx1, mh0, mh1, rd_s, rd_o, rd_j, rd_2k, rdL_1k, ↓reduceIte, Bool.false_eq_true, Bool.true_eq_false, Nat.add_eq, Nat.zero_add, Nat.add_zero, not_true_eq_false, not_false_eq_true, h3, (neg_ne0 h1 (by omega : c ≤ 7)).1, v_ref]
    refine Ev.i ?_
    unfold f_M_needs
    simp (disch := omega) only [k0, k1, k2, k3, k4, k5, k6, k7, k8, k9, k10, k12, k20, k30, k31, k40, k99, k160, ite_self, nI_add, nI_leI, nI_ltI, nI_eq, nI_clamp, nI_sub', nI_mul, vpb_n, eq_self, implies_true, grd_t, grd_i, if_pos, if_neg, bI_k, bV_k, bx0, bx1, mh0, mh1, rd_s, rd_o, rd_j, rd_2k, rdL_1k, ↓reduceIte, Bool.false_eq_true, Bool.true_eq_false, Nat.add_eq, Nat.zero_add, Nat.add_zero, not_true_eq_false, not_false_eq_true, e1, (neg_ne0 h1 (by omega : c ≤ 7)).2, v_no]
    exact Ev.i ⟨rfl, inv_ref h h1 (by omega)⟩
  obtain ⟨r1, r2, r3, r4, r5, r6, r7⟩ := hr
  have c1 := g1.1.1
  have c3 := g1.2.1.1
  have en : ∀ c, v_M_noRow (u_X_refuse w (-nI c)) (nI s) = nI 0 := fun c => (noRow_c (xr_o (by omega)) (nI s)).trans h4
  have x64 : ∀ c, (u_X_refuse w (-nI c)).1 64 s = nI len := fun c => by rw [xr_o (by omega)]; exact r6
  have x62 : ∀ c, (u_X_refuse w (-nI c)).1 62 3 = nI n := fun c => by rw [xr_o (by omega)]; exact c3
  by_cases q : n ≤ len
  · simp (disch := omega) only [k0, k1, k2, k3, k4, k5, k6, k7, k8, k9, k10, k12, k20, k30, k31, k40, k99, k160, ite_self, nI_add, nI_leI, nI_ltI, nI_eq, nI_clamp, nI_sub', nI_mul, vpb_n, eq_self, implies_true, grd_t, grd_i, if_pos, if_neg, bI_k, bV_k, bx0, bx1, mh0, mh1, rd_s, rd_o, rd_j, rd_2k, rdL_1k, ↓reduceIte, Bool.false_eq_true, Bool.true_eq_false, Nat.add_eq, Nat.zero_add, Nat.add_zero, not_true_eq_false, not_false_eq_true, h3, c1, r5]
    rw [X_fw (E := fun i => (w.2.1 (35 + 2 * s + 1) i).toInt32) r5 (by omega) (fun i _ => rfl) q]
    simp (disch := omega) only [k0, k1, k2, k3, k4, k5, k6, k7, k8, k9, k10, k12, k20, k30, k31, k40, k99, k160, ite_self, nI_add, nI_leI, nI_ltI, nI_eq, nI_clamp, nI_sub', nI_mul, vpb_n, eq_self, implies_true, grd_t, grd_i, if_pos, if_neg, bI_k, bV_k, bx0, bx1, mh0, mh1, rd_s, rd_o, rd_j, rd_2k, rdL_1k, ↓reduceIte, Bool.false_eq_true, Bool.true_eq_false, Nat.add_eq, Nat.zero_add, Nat.add_zero, not_true_eq_false, not_false_eq_true]
    generalize hE : (fun i => (w.2.1 (35 + 2 * s + 1) i).toInt32) = E
    have hE1 : ∀ i, (w.2.1 (35 + 2 * s + 1) i).toInt32 = E i := fun i => by rw [← hE]
    by_cases hf : fwV E n 0 = -nI 1
    · have os := fwV_ok hf
      have hex : ∀ i, i < n → E i = nI (E i).toNatClampNeg ∧ (E i).toNatClampNeg < 40 := by
        intro i hi
        obtain ⟨v, hv, ev⟩ := os i hi
        rw [ev, nI_clamp (by omega)]
        exact ⟨rfl, hv⟩
      generalize hee : (fun i => (E i).toNatClampNeg) = e at *
      have he1 : ∀ i, i < n → E i = nI (e i) := fun i hi => by rw [← hee]; exact (hex i hi).1
      have he : ∀ i, i < n → e i < 40 := fun i hi => by rw [← hee]; exact (hex i hi).2
      simp (disch := omega) only [k0, k1, k2, k3, k4, k5, k6, k7, k8, k9, k10, k12, k20, k30, k31, k40, k99, k160, ite_self, nI_add, nI_leI, nI_ltI, nI_eq, nI_clamp, nI_sub', nI_mul, vpb_n, eq_self, implies_true, grd_t, grd_i, if_pos, if_neg, bI_k, bV_k, bx0, bx1, mh0, mh1, rd_s, rd_o, rd_j, rd_2k, rdL_1k, ↓reduceIte, Bool.false_eq_true, Bool.true_eq_false, Nat.add_eq, Nat.zero_add, Nat.add_zero, not_true_eq_false, not_false_eq_true, hf]
      refine Ev.bI (X_shortest (e := e) g1.1 ok hs8 r2 r5 q (fun i hi => (hE1 i).trans (he1 i hi)) he) (fun v w1 h1 => ?_)
      obtain ⟨rfl, rfl⟩ := h1
      refine Ev.i ?_
      have hE2 : ∀ i, i < n → (w1.2.1 65 (160 * s + i)).toInt32 = E i := fun i hi => by rw [← r7 i (by omega)]; exact hE1 i
      have wt := fun f (hf : f < 3) => M_wanted (e := e) g1.2.1 ok hs8 (fun i hi => (hE2 i hi).trans (he1 i hi)) he hf
      have w0 := wt 0 (by omega)
      have w1' := wt 1 (by omega)
      have w2 := wt 2 (by omega)
      have hd : ∀ f, dcN F e f n ≤ 8 := fun f => Nat.le_trans (dc_le F e f n) hn
      have d0 := hd 0
      have d1 := hd 1
      have d2 := hd 2
      rw [nd_eq d0 d1 d2]
      generalize dcN F e 0 n = a at *
      generalize dcN F e 1 n = b at *
      generalize dcN F e 2 n = c at *
      unfold f_M_needs
      simp (disch := omega) only [k0, k1, k2, k3, k4, k5, k6, k7, k8, k9, k10, k12, k20, k30, k31, k40, k99, k160, ite_self, nI_add, nI_leI, nI_ltI, nI_eq, nI_clamp, nI_sub', nI_mul, vpb_n, eq_self, implies_true, grd_t, grd_i, if_pos, if_neg, bI_k, bV_k, bx0, bx1, mh0, mh1, rd_s, rd_o, rd_j, rd_2k, rdL_1k, ↓reduceIte, Bool.false_eq_true, Bool.true_eq_false, Nat.add_eq, Nat.zero_add, Nat.add_zero, not_true_eq_false, not_false_eq_true, h4, r6, c3]
      rw [M_fw (E := E) hs8 hE2 (by omega)]
      simp (disch := omega) only [k0, k1, k2, k3, k4, k5, k6, k7, k8, k9, k10, k12, k20, k30, k31, k40, k99, k160, ite_self, nI_add, nI_leI, nI_ltI, nI_eq, nI_clamp, nI_sub', nI_mul, vpb_n, eq_self, implies_true, grd_t, grd_i, if_pos, if_neg, bI_k, bV_k, bx0, bx1, mh0, mh1, rd_s, rd_o, rd_j, rd_2k, rdL_1k, ↓reduceIte, Bool.false_eq_true, Bool.true_eq_false, Nat.add_eq, Nat.zero_add, Nat.add_zero, not_true_eq_false, not_false_eq_true, hf]
      rw [w0]
      simp only [bI_k]
      rw [w1']
      simp only [bI_k]
      rw [w2]
      simp only [bI_k]
      rw [w2]
      simp only [bI_k]
      obtain ⟨em, hm8⟩ := mx_nI8 d0 d1 d2
      rw [em]
      unfold ndV
      generalize mx3 a b c = mx at *
      by_cases p1 : mx ≤ c
      · rw [if_pos p1]
        simp (disch := omega) only [k0, k1, k2, k3, k4, k5, k6, k7, k8, k9, k10, k12, k20, k30, k31, k40, k99, k160, ite_self, nI_add, nI_leI, nI_ltI, nI_eq, nI_clamp, nI_sub', nI_mul, vpb_n, eq_self, implies_true, grd_t, grd_i, if_pos, if_neg, bI_k, bV_k, bx0, bx1, mh0, mh1, rd_s, rd_o, rd_j, rd_2k, rdL_1k, ↓reduceIte, Bool.false_eq_true, Bool.true_eq_false, Nat.add_eq, Nat.zero_add, Nat.add_zero, not_true_eq_false, not_false_eq_true]
        exact Ev.i ⟨rfl, h⟩
      · rw [if_neg p1]
        have e1 : nI (3 * mx) + -nI 1 = nI (3 * mx - 1) := sb_m1 (by omega)
        have e2 : nI (3 * mx - 1) + -nI 1 = nI (3 * mx - 2) := sb_m1 (by omega)
        by_cases p2 : mx ≤ b
        · rw [if_pos p2]
          simp (disch := omega) only [k0, k1, k2, k3, k4, k5, k6, k7, k8, k9, k10, k12, k20, k30, k31, k40, k99, k160, ite_self, nI_add, nI_leI, nI_ltI, nI_eq, nI_clamp, nI_sub', nI_mul, vpb_n, eq_self, implies_true, grd_t, grd_i, if_pos, if_neg, bI_k, bV_k, bx0, bx1, mh0, mh1, rd_s, rd_o, rd_j, rd_2k, rdL_1k, ↓reduceIte, Bool.false_eq_true, Bool.true_eq_false, Nat.add_eq, Nat.zero_add, Nat.add_zero, not_true_eq_false, not_false_eq_true, w1', e1]
          exact Ev.i ⟨rfl, h⟩
        · rw [if_neg p2]
          simp (disch := omega) only [k0, k1, k2, k3, k4, k5, k6, k7, k8, k9, k10, k12, k20, k30, k31, k40, k99, k160, ite_self, nI_add, nI_leI, nI_ltI, nI_eq, nI_clamp, nI_sub', nI_mul, vpb_n, eq_self, implies_true, grd_t, grd_i, if_pos, if_neg, bI_k, bV_k, bx0, bx1, mh0, mh1, rd_s, rd_o, rd_j, rd_2k, rdL_1k, ↓reduceIte, Bool.false_eq_true, Bool.true_eq_false, Nat.add_eq, Nat.zero_add, Nat.add_zero, not_true_eq_false, not_false_eq_true, w1', e1, e2]
          exact Ev.i ⟨rfl, h⟩
    · simp (disch := omega) only [k0, k1, k2, k3, k4, k5, k6, k7, k8, k9, k10, k12, k20, k30, k31, k40, k99, k160, ite_self, nI_add, nI_leI, nI_ltI, nI_eq, nI_clamp, nI_sub', nI_mul, vpb_n, eq_self, implies_true, grd_t, grd_i, if_pos, if_neg, bI_k, bV_k, bx0, bx1, mh0, mh1, rd_s, rd_o, rd_j, rd_2k, rdL_1k, ↓reduceIte, Bool.false_eq_true, Bool.true_eq_false, Nat.add_eq, Nat.zero_add, Nat.add_zero, not_true_eq_false, not_false_eq_true, hf, v_ref]
      refine Ev.i ?_
      unfold f_M_needs
      simp (disch := omega) only [k0, k1, k2, k3, k4, k5, k6, k7, k8, k9, k10, k12, k20, k30, k31, k40, k99, k160, ite_self, nI_add, nI_leI, nI_ltI, nI_eq, nI_clamp, nI_sub', nI_mul, vpb_n, eq_self, implies_true, grd_t, grd_i, if_pos, if_neg, bI_k, bV_k, bx0, bx1, mh0, mh1, rd_s, rd_o, rd_j, rd_2k, rdL_1k, ↓reduceIte, Bool.false_eq_true, Bool.true_eq_false, Nat.add_eq, Nat.zero_add, Nat.add_zero, not_true_eq_false, not_false_eq_true, en, x64, x62]
      rw [M_fw (E := E) hs8 (fun i hi => by rw [xr_2, ← r7 i (by omega)]; exact hE1 i) (by omega)]
      simp (disch := omega) only [k0, k1, k2, k3, k4, k5, k6, k7, k8, k9, k10, k12, k20, k30, k31, k40, k99, k160, ite_self, nI_add, nI_leI, nI_ltI, nI_eq, nI_clamp, nI_sub', nI_mul, vpb_n, eq_self, implies_true, grd_t, grd_i, if_pos, if_neg, bI_k, bV_k, bx0, bx1, mh0, mh1, rd_s, rd_o, rd_j, rd_2k, rdL_1k, ↓reduceIte, Bool.false_eq_true, Bool.true_eq_false, Nat.add_eq, Nat.zero_add, Nat.add_zero, not_true_eq_false, not_false_eq_true, hf, v_no]
      exact Ev.i ⟨rfl, inv_ref h (by omega) (by omega)⟩
  · simp (disch := omega) only [k0, k1, k2, k3, k4, k5, k6, k7, k8, k9, k10, k12, k20, k30, k31, k40, k99, k160, ite_self, nI_add, nI_leI, nI_ltI, nI_eq, nI_clamp, nI_sub', nI_mul, vpb_n, eq_self, implies_true, grd_t, grd_i, if_pos, if_neg, bI_k, bV_k, bx0, bx1, mh0, mh1, rd_s, rd_o, rd_j, rd_2k, rdL_1k, ↓reduceIte, Bool.false_eq_true, Bool.true_eq_false, Nat.add_eq, Nat.zero_add, Nat.add_zero, not_true_eq_false, not_false_eq_true, h3, c1, r5, v_ref]
    refine Ev.i ?_
    unfold f_M_needs
    simp (disch := omega) only [k0, k1, k2, k3, k4, k5, k6, k7, k8, k9, k10, k12, k20, k30, k31, k40, k99, k160, ite_self, nI_add, nI_leI, nI_ltI, nI_eq, nI_clamp, nI_sub', nI_mul, vpb_n, eq_self, implies_true, grd_t, grd_i, if_pos, if_neg, bI_k, bV_k, bx0, bx1, mh0, mh1, rd_s, rd_o, rd_j, rd_2k, rdL_1k, ↓reduceIte, Bool.false_eq_true, Bool.true_eq_false, Nat.add_eq, Nat.zero_add, Nat.add_zero, not_true_eq_false, not_false_eq_true, en, x64, x62, v_no]
    exact Ev.i ⟨rfl, inv_ref h (by omega) (by omega)⟩
