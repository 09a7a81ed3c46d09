/-! placesBy -/
theorem thN_lt (lo hi : Nat) : ∀ (n acc p : Nat), acc < 2 ^ 30 → thN lo hi n acc p < 2 ^ 30 := by
  intro n
  induction n with
  | zero => intro acc p h; exact h
  | succ n ih =>
    intro acc p h
    rw [thN]
    split
    · exact h
    split
    · exact h
    split
    · exact ih _ _ h
    · exact ih _ _ (or_lt30 h (by omega))
theorem thirdsN_lt (f lo hi : Nat) : thirdsN f lo hi < 2 ^ 30 := thN_lt _ _ _ _ _ (by decide)
theorem msN_lt (m a : Nat) : ∀ (n acc u p : Nat), acc < 2 ^ 30 → msN m a n acc u p < 2 ^ 30 := by
  intro n
  induction n with
  | zero => intro acc u p h; exact h
  | succ n ih =>
    intro acc u p h
    rw [msN]
    split
    · exact h
    split
    · exact ih _ _ _ h
    split
    · exact ih _ _ _ h
    · exact ih _ _ _ (or_lt30 h (by omega))
theorem missN_lt (m a : Nat) : missN m a < 2 ^ 30 := msN_lt _ _ _ _ _ _ (by decide)
theorem nI_mul (a b : Nat) : nI a * nI b = nI (a * b) := (Int32.ofNat_mul a b).symm
theorem nI_min {a n : Nat} (ha : a < 2 ^ 31) (hn : n < 2 ^ 31) : (if nI n < nI a then nI n else nI a) = nI (if n < a then n else a) := by
  by_cases h : n < a
  · rw [if_pos ((nI_ltI hn ha).mpr h), if_pos h]
  · rw [if_neg (fun q => h ((nI_ltI hn ha).mp q)), if_neg h]
theorem min_lt {a n m : Nat} (hn : n < m) (ha : a < m) : (if n < a then n else a) < m := by
  split <;> omega
def placesN (k a f n : Nat) : Nat :=
  if k = 1 then thirdsN f 0 n ||| thirdsN (f + 1) a n
  else if k = 2 then missN (thirdsN f 0 n) a
  else if k = 3 then thirdsN f 0 n ||| spanN a n
  else if k = 4 then thirdsN f 0 (if n < a then n else a) ||| thirdsN (f + 1) a n
  else if k = 5 then everyN (missN (thirdsN f 0 n) a)
  else if k = 6 then (thirdsN f 0 (if n < a then n else a) ||| thirdsN (f + 1) a (if n < 2 * a then n else 2 * a)) ||| thirdsN (f + 2) (2 * a) n
  else thirdsN f 0 n
theorem pl0 (a f n : Nat) : placesN 0 a f n = thirdsN f 0 n := by simp [placesN]
theorem pl1 (a f n : Nat) : placesN 1 a f n = thirdsN f 0 n ||| thirdsN (f + 1) a n := by simp [placesN]
theorem pl2 (a f n : Nat) : placesN 2 a f n = missN (thirdsN f 0 n) a := by simp [placesN]
theorem pl3 (a f n : Nat) : placesN 3 a f n = thirdsN f 0 n ||| spanN a n := by simp [placesN]
theorem pl4 (a f n : Nat) : placesN 4 a f n = thirdsN f 0 (if n < a then n else a) ||| thirdsN (f + 1) a n := by simp [placesN]
theorem pl5 (a f n : Nat) : placesN 5 a f n = everyN (missN (thirdsN f 0 n) a) := by simp [placesN]
theorem pl6 (a f n : Nat) : placesN 6 a f n = (thirdsN f 0 (if n < a then n else a) ||| thirdsN (f + 1) a (if n < 2 * a then n else 2 * a)) ||| thirdsN (f + 2) (2 * a) n := by simp [placesN]
theorem f_placesBy (w : MW) {k a f n : Nat} (hk : k < 7) (ha : a < 60) (hf : f < 3) (hn : n < 31) : f_X_placesBy w (nI k) (nI a) (nI f) (nI n) = some (some (.int (nI (placesN k a f n))), w) := by
  have z0 : (0 : Int32) = nI 0 := rfl
  have t0 := f_thirds w (f := f) (lo := 0) (hi := n) (by omega) (by decide) (by omega)
  have t1 := f_thirds w (f := f + 1) (lo := a) (hi := n) (by omega) (by omega) (by omega)
  have s1 := f_span w (lo := a) (hi := n) (by omega) (by omega)
  have m1 := f_missing w (m := thirdsN f 0 n) (a := a) (thirdsN_lt _ _ _) (by omega)
  have e1 := f_every w (m := missN (thirdsN f 0 n) a) (missN_lt _ _)
  have t2 := f_thirds w (f := f) (lo := 0) (hi := if n < a then n else a) (by omega) (by decide) (min_lt (by omega) (by omega))
  have t3 := f_thirds w (f := f + 1) (lo := a) (hi := if n < 2 * a then n else 2 * a) (by omega) (by omega) (min_lt (by omega) (by omega))
  have t4 := f_thirds w (f := f + 2) (lo := 2 * a) (hi := n) (by omega) (by omega) (by omega)
  have ef1 : nI f + 1 = nI (f + 1) := nI_1 f
  have ef2 : nI f + 2 = nI (f + 2) := nI_add f 2
  have e2a : 2 * nI a = nI (2 * a) := nI_mul 2 a
  have mn1 := nI_min (a := a) (n := n) (by omega) (by omega)
  have mn2 := nI_min (a := 2 * a) (n := n) (by omega) (by omega)
  unfold f_X_placesBy
  rw [z0, t0]
  simp only [bI]
  rcases (show k = 0 ∨ k = 1 ∨ k = 2 ∨ k = 3 ∨ k = 4 ∨ k = 5 ∨ k = 6 by omega) with h | h | h | h | h | h | h <;> subst h
  · rw [if_neg (by decide), if_neg (by decide), if_neg (by decide), if_neg (by decide), if_neg (by decide), if_neg (by decide), pl0]
  · rw [if_pos (by decide), ef1, t1, pl1]
    simp only [nI_or]
  · rw [if_neg (by decide), if_pos (by decide), m1, pl2]
  · rw [if_neg (by decide), if_neg (by decide), if_pos (by decide), s1, pl3]
    simp only [nI_or]
  · rw [if_neg (by decide), if_neg (by decide), if_neg (by decide), if_pos (by decide), mn1, t2, ef1, pl4]
    simp only [t1, nI_or]
  · rw [if_neg (by decide), if_neg (by decide), if_neg (by decide), if_neg (by decide), if_pos (by decide), m1, pl5]
    simp only [e1]
  · rw [if_neg (by decide), if_neg (by decide), if_neg (by decide), if_neg (by decide), if_neg (by decide), if_pos (by decide), mn1, t2, ef1, e2a, mn2, pl6]
    simp only [t3, ef2, t4, nI_or]
