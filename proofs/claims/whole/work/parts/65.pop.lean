/-! how many bits -/
def cntN (m : Nat) : Nat → Nat
  | 0 => 0
  | n + 1 => m % 2 + cntN (m / 2) n
theorem cntN_0 : ∀ n, cntN 0 n = 0 := by
  intro n
  induction n with
  | zero => rfl
  | succ n ih =>
    rw [cntN]
    show 0 + cntN 0 n = 0
    rw [ih]
theorem cntN_add : ∀ (n k m : Nat), cntN m (n + k) = cntN m n + cntN (m / 2 ^ n) k := by
  intro n
  induction n with
  | zero =>
    intro k m
    rw [Nat.zero_add, cntN, Nat.pow_zero, Nat.div_one, Nat.zero_add]
  | succ n ih =>
    intro k m
    rw [show n + 1 + k = (n + k) + 1 by omega, cntN, cntN, ih, Nat.div_div_eq_div_mul, show 2 * 2 ^ n = 2 ^ (n + 1) by rw [Nat.pow_succ, Nat.mul_comm]]
    omega
theorem cntN_le : ∀ (n m : Nat), cntN m n ≤ n := by
  intro n
  induction n with
  | zero => intro m; exact Nat.le_refl _
  | succ n ih =>
    intro m
    rw [cntN]
    have := ih (m / 2)
    omega
def mk8 (c : Nat) : Nat → Nat
  | 0 => 0
  | n + 1 => c + 256 * mk8 c n
theorem land2 {a b c d : Nat} (ha : a < 256) (hc : c < 256) : (a + 256 * b) &&& (c + 256 * d) = (a &&& c) + 256 * (b &&& d) := by
  have hac : a &&& c < 2 ^ 8 := Nat.and_lt_two_pow _ hc
  apply Nat.eq_of_testBit_eq
  intro i
  have e1 : a + 256 * b = 2 ^ 8 * b + a := by omega
  have e2 : c + 256 * d = 2 ^ 8 * d + c := by omega
  have e3 : (a &&& c) + 256 * (b &&& d) = 2 ^ 8 * (b &&& d) + (a &&& c) := by omega
  rw [Nat.testBit_and, e1, e2, e3, Nat.testBit_two_pow_mul_add b ha, Nat.testBit_two_pow_mul_add d hc, Nat.testBit_two_pow_mul_add (b &&& d) hac]
  split
  · rw [Nat.testBit_and]
  · rw [Nat.testBit_and]
def st1 (n v : Nat) : Nat := v - ((v >>> 1) &&& mk8 85 n)
def st2 (n v : Nat) : Nat := (v &&& mk8 51 n) + ((v >>> 2) &&& mk8 51 n)
def st3 (n v : Nat) : Nat := (v + (v >>> 4)) &&& mk8 15 n
def g1 (a : Nat) : Nat := a - ((a >>> 1) &&& 85)
def g2 (a : Nat) : Nat := (a &&& 51) + ((a >>> 2) &&& 51)
def g3 (a : Nat) : Nat := (a + (a >>> 4)) &&& 15
theorem st1_s {n a b : Nat} (ha : a < 256) : st1 (n + 1) (a + 256 * b) = g1 a + 256 * st1 n b := by
  unfold st1 g1
  have e : (a + 256 * b) >>> 1 = (a / 2 + 128 * (b % 2)) + 256 * (b >>> 1) := by
    rw [Nat.shiftRight_eq_div_pow, Nat.shiftRight_eq_div_pow]
    omega
  rw [mk8, e, land2 (by omega) (by decide)]
  have key : ∀ a, a < 256 → ∀ t, t < 2 → (a / 2 + 128 * t) &&& 85 = (a >>> 1) &&& 85 := by decide +kernel
  rw [key a ha (b % 2) (by omega)]
  have l1 : (a >>> 1) &&& 85 ≤ a := Nat.le_trans Nat.and_le_left (Nat.shiftRight_le _ _)
  have l2 : (b >>> 1) &&& mk8 85 n ≤ b := Nat.le_trans Nat.and_le_left (Nat.shiftRight_le _ _)
  omega
theorem st2_s {n a b : Nat} (ha : a < 256) : st2 (n + 1) (a + 256 * b) = g2 a + 256 * st2 n b := by
  unfold st2 g2
  have e : (a + 256 * b) >>> 2 = (a / 4 + 64 * (b % 4)) + 256 * (b >>> 2) := by
    rw [Nat.shiftRight_eq_div_pow, Nat.shiftRight_eq_div_pow]
    omega
  rw [mk8, e, land2 ha (by decide), land2 (by omega) (by decide)]
  have key : ∀ a, a < 256 → ∀ t, t < 4 → (a / 4 + 64 * t) &&& 51 = (a >>> 2) &&& 51 := by decide +kernel
  rw [key a ha (b % 4) (by omega)]
  omega
theorem st3_s {n a b : Nat} (ha : a < 256) (h1 : a ≤ 68) (h2 : b % 16 ≤ 4) : st3 (n + 1) (a + 256 * b) = g3 a + 256 * st3 n b := by
  unfold st3 g3
  have e : (a + 256 * b) + (a + 256 * b) >>> 4 = (a + a / 16 + 16 * (b % 16)) + 256 * (b + b >>> 4) := by
    rw [Nat.shiftRight_eq_div_pow, Nat.shiftRight_eq_div_pow]
    omega
  rw [mk8, e, land2 (by omega) (by decide)]
  have key : ∀ a, a ≤ 68 → ∀ t, t ≤ 4 → (a + a / 16 + 16 * t) &&& 15 = (a + a >>> 4) &&& 15 := by decide +kernel
  rw [key a h1 (b % 16) h2]
theorem g_fin : ∀ a, a < 256 → g1 a < 256 ∧ g2 (g1 a) ≤ 68 ∧ g2 (g1 a) % 16 ≤ 4 ∧ g3 (g2 (g1 a)) = cntN a 8 := by decide +kernel
def st (n v : Nat) : Nat := st3 n (st2 n (st1 n v))
theorem st_0 (v : Nat) : st 0 v = 0 := by
  unfold st st3
  rw [mk8, Nat.and_zero]
theorem st2_m : ∀ (n v : Nat), st2 n (st1 n v) % 16 ≤ 4 := by
  intro n v
  cases n with
  | zero =>
    unfold st2
    rw [mk8, Nat.and_zero, Nat.and_zero]
    omega
  | succ n =>
    have e : v = v % 256 + 256 * (v / 256) := by omega
    have h := g_fin (v % 256) (Nat.mod_lt _ (by omega))
    rw [e, st1_s (Nat.mod_lt _ (by omega)), st2_s h.1]
    omega
theorem st_s {n a b : Nat} (ha : a < 256) : st (n + 1) (a + 256 * b) = cntN a 8 + 256 * st n b := by
  obtain ⟨h1, h2, h3, h4⟩ := g_fin a ha
  unfold st
  rw [st1_s ha, st2_s h1, st3_s (by omega) h2 (st2_m n b), h4]
theorem cnt_s (n m : Nat) : cntN m (8 + n) = cntN (m % 256) 8 + cntN (m / 256) n := by
  rw [cntN_add]
  have key : ∀ a, a < 256 → True := fun _ _ => trivial
  have e : cntN m 8 = cntN (m % 256) 8 := by
    simp only [cntN]
    omega
  rw [e]
theorem st4 {m : Nat} : st 4 m = cntN (m % 256) 8 + 256 * (cntN (m / 256 % 256) 8 + 256 * (cntN (m / 65536 % 256) 8 + 256 * cntN (m / 16777216 % 256) 8)) := by
  have e : m = m % 256 + 256 * (m / 256 % 256 + 256 * (m / 65536 % 256 + 256 * (m / 16777216 % 256 + 256 * (m / 4294967296)))) := by omega
  rw [show st 4 m = st 4 (m % 256 + 256 * (m / 256 % 256 + 256 * (m / 65536 % 256 + 256 * (m / 16777216 % 256 + 256 * (m / 4294967296))))) by rw [← e]]
  rw [st_s (Nat.mod_lt _ (by omega)), st_s (Nat.mod_lt _ (by omega)), st_s (Nat.mod_lt _ (by omega)), st_s (Nat.mod_lt _ (by omega)), st_0, Nat.mul_zero, Nat.add_zero]
theorem cnt4 {m : Nat} (h : m < 4294967296) : cntN m 32 = cntN (m % 256) 8 + (cntN (m / 256 % 256) 8 + (cntN (m / 65536 % 256) 8 + cntN (m / 16777216 % 256) 8)) := by
  rw [show (32 : Nat) = 8 + 24 by rfl, cnt_s, show (24 : Nat) = 8 + 16 by rfl, cnt_s, show (16 : Nat) = 8 + 8 by rfl, cnt_s, Nat.div_div_eq_div_mul, Nat.div_div_eq_div_mul]
  have e : m / (256 * 256 * 256) = m / 16777216 % 256 := by omega
  have e2 : m / (256 * 256) = m / 65536 := rfl
  rw [e, e2, Nat.mod_mod]
theorem swar4 {t0 t1 t2 t3 S : Nat} (h0 : t0 ≤ 8) (h1 : t1 ≤ 8) (h2 : t2 ≤ 8) (h3 : t3 ≤ 8) (e : S = t0 + 256 * (t1 + 256 * (t2 + 256 * t3))) : (S + S / 256 + (S + S / 256) / 65536) % 64 = t0 + (t1 + (t2 + t3)) := by
  have e1 : S / 256 = t1 + 256 * (t2 + 256 * t3) := by omega
  have e2 : S + S / 256 = (t0 + t1) + 256 * (t1 + t2) + 65536 * ((t2 + t3) + 256 * t3) := by omega
  have e3 : (S + S / 256) / 65536 = (t2 + t3) + 256 * t3 := by omega
  rw [e3, e2]
  omega
theorem pcV_cnt {m : Nat} (h : m < 2 ^ 30) : pcV (nI m) = nI (cntN m 32) := by
  have c0 : (1431655765 : Int32) = nI (mk8 85 4) := by decide
  have c1 : (858993459 : Int32) = nI (mk8 51 4) := by decide
  have c2 : (252645135 : Int32) = nI (mk8 15 4) := by decide
  have u1 : ush (nI m) (1 : Int32) = nI (m >>> 1) := ush_nI (p := 1) (by omega) (by omega)
  have l1 : (m >>> 1) &&& mk8 85 4 ≤ m := Nat.le_trans Nat.and_le_left (Nat.shiftRight_le _ _)
  have b1 : st1 4 m ≤ m := Nat.sub_le _ _
  have s1 : nI m - (ush (nI m) (1 : Int32) &&& 1431655765) = nI (st1 4 m) := by
    rw [u1, c0, nI_and, pk_sub l1]
    rfl
  have u2 : ush (nI (st1 4 m)) (2 : Int32) = nI (st1 4 m >>> 2) := ush_nI (p := 2) (by omega) (by omega)
  have s2 : (nI (st1 4 m) &&& 858993459) + (ush (nI (st1 4 m)) (2 : Int32) &&& 858993459) = nI (st2 4 (st1 4 m)) := by
    rw [u2, c1, nI_and, nI_and, nI_add]
    rfl
  have b2 : st2 4 (st1 4 m) < 2 ^ 31 := by
    have q1 : st1 4 m &&& mk8 51 4 ≤ mk8 51 4 := Nat.and_le_right
    have q2 : (st1 4 m >>> 2) &&& mk8 51 4 ≤ mk8 51 4 := Nat.and_le_right
    have q3 : mk8 51 4 = 858993459 := by decide
    unfold st2
    omega
  have u3 : ush (nI (st2 4 (st1 4 m))) (4 : Int32) = nI (st2 4 (st1 4 m) >>> 4) := ush_nI (p := 4) b2 (by omega)
  have s3 : (nI (st2 4 (st1 4 m)) + ush (nI (st2 4 (st1 4 m))) (4 : Int32)) &&& 252645135 = nI (st 4 m) := by
    rw [u3, c2, nI_add, nI_and]
    rfl
  have e4 := st4 (m := m)
  have d1 := cntN_le 8 (m % 256)
  have d2 := cntN_le 8 (m / 256 % 256)
  have d3 := cntN_le 8 (m / 65536 % 256)
  have d4 := cntN_le 8 (m / 16777216 % 256)
  have u4 : ush (nI (st 4 m)) (8 : Int32) = nI (st 4 m >>> 8) := ush_nI (p := 8) (by omega) (by omega)
  have q8 : st 4 m >>> 8 = st 4 m / 256 := Nat.shiftRight_eq_div_pow _ _
  have s4 : nI (st 4 m) + ush (nI (st 4 m)) (8 : Int32) = nI (st 4 m + st 4 m / 256) := by rw [u4, nI_add, q8]
  have u5 : ush (nI (st 4 m + st 4 m / 256)) (16 : Int32) = nI ((st 4 m + st 4 m / 256) >>> 16) := ush_nI (p := 16) (by omega) (by omega)
  have q16 : (st 4 m + st 4 m / 256) >>> 16 = (st 4 m + st 4 m / 256) / 65536 := Nat.shiftRight_eq_div_pow _ _
  have s5 : (nI (st 4 m + st 4 m / 256) + ush (nI (st 4 m + st 4 m / 256)) (16 : Int32)) &&& 63 = nI (cntN m 32) := by
    rw [u5, nI_add, q16, show (63 : Int32) = nI 63 from rfl, nI_and]
    have e : (st 4 m + st 4 m / 256 + (st 4 m + st 4 m / 256) / 65536) &&& 63 = (st 4 m + st 4 m / 256 + (st 4 m + st 4 m / 256) / 65536) % 64 := Nat.and_two_pow_sub_one_eq_mod _ 6
    rw [e, cnt4 (by omega), swar4 d1 d2 d3 d4 e4]
  unfold pcV f_JI_bitCount
  dsimp only
  rw [s1, s2, s3, s4, s5]
