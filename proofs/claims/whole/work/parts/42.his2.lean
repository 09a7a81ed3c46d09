/-! span, missing, everyOther, placesBy -/
def spN (hi : Nat) : Nat → Nat → Nat → Nat
  | 0, acc, _ => acc
  | n + 1, acc, p => if hi ≤ p then acc else if 30 ≤ p then acc else spN hi n (acc ||| 1 <<< p) (p + 1)
theorem c30_le {p : Nat} (h : p < 2 ^ 31) : ((30 : Int32) ≤ nI p) ↔ 30 ≤ p := nI_leI (a := 30) (by decide) h
theorem span_loop (w : MW) (hi : Nat) (hhi : hi < 1000) : ∀ (n acc p : Nat), acc < 2 ^ 30 → p < 1000 → 30 ≤ p + n → f_X_span_8 (n + 1) w (nI hi) (nI acc) (nI p) = some (some (.int (nI (spN hi (n + 1) acc p))), w) := by
  intro n
  induction n with
  | zero =>
    intro acc p ha hp h
    rw [f_X_span_8, spN]
    by_cases h1 : hi ≤ p
    · rw [if_pos ((nI_leI (by omega) (by omega)).mpr h1), if_pos h1]
    · rw [if_neg (fun q => h1 ((nI_leI (by omega) (by omega)).mp q)), if_neg h1]
      have h2 : 30 ≤ p := by omega
      rw [if_pos ((c30_le (by omega)).mpr h2), if_pos h2]
  | succ n ih =>
    intro acc p ha hp h
    rw [f_X_span_8, spN]
    by_cases h1 : hi ≤ p
    · rw [if_pos ((nI_leI (by omega) (by omega)).mpr h1), if_pos h1]
    rw [if_neg (fun q => h1 ((nI_leI (by omega) (by omega)).mp q)), if_neg h1]
    by_cases h2 : 30 ≤ p
    · rw [if_pos ((c30_le (by omega)).mpr h2), if_pos h2]
    rw [if_neg (fun q => h2 ((c30_le (by omega)).mp q)), if_neg h2, nI_1, nI_sh1 (by omega), nI_or]
    exact ih _ (p + 1) (or_lt30 ha (by omega)) (by omega) (by omega)
def spanN (lo hi : Nat) : Nat := spN hi 1000 0 lo
theorem f_span (w : MW) {lo hi : Nat} (hlo : lo < 1000) (hhi : hi < 1000) : f_X_span w (nI lo) (nI hi) = some (some (.int (nI (spanN lo hi))), w) := by
  unfold f_X_span
  rw [if_neg (nI_pos (by omega))]
  exact span_loop w hi hhi 999 0 lo (by decide) hlo (by omega)
def msN (m a : Nat) : Nat → Nat → Nat → Nat → Nat
  | 0, acc, _, _ => acc
  | n + 1, acc, u, p => if 30 ≤ p then acc else if m.testBit p = false then msN m a n acc u (p + 1) else if u = 0 then msN m a n acc (a + 1) (p + 1) else msN m a n (acc ||| 1 <<< p) (u - 1) (p + 1)
theorem nI_m1 {u : Nat} (h : u < 100) : nI (u + 1) + (-1) = nI u := by
  have key : ∀ u, u < 100 → nI (u + 1) + (-1) = nI u := by decide +kernel
  exact key u h
theorem missing_loop (w : MW) {m a : Nat} (hm : m < 2 ^ 30) (hA : a < 64) : ∀ (n acc u p : Nat), acc < 2 ^ 30 → u < 65 → p < 1000 → 30 ≤ p + n → f_X_missing_7 (n + 1) w (nI m) (nI a) (nI acc) (nI u) (nI p) = some (some (.int (nI (msN m a (n + 1) acc u p))), w) := by
  intro n
  induction n with
  | zero =>
    intro acc u p ha hu hp h
    rw [f_X_missing_7, msN]
    have h2 : 30 ≤ p := by omega
    rw [if_pos ((c30_le (by omega)).mpr h2), if_pos h2]
  | succ n ih =>
    intro acc u p ha hu hp h
    rw [f_X_missing_7, msN]
    by_cases h2 : 30 ≤ p
    · rw [if_pos ((c30_le (by omega)).mpr h2), if_pos h2]
    rw [if_neg (fun q => h2 ((c30_le (by omega)).mp q)), if_neg h2, nI_1]
    have hb := nI_bit (m := m) (p := p) (by omega) (by omega)
    by_cases h3 : m.testBit p = false
    · rw [if_pos (hb.mpr h3), if_pos h3]
      exact ih acc u (p + 1) ha hu (by omega) (by omega)
    rw [if_neg (fun q => h3 (hb.mp q)), if_neg h3]
    by_cases h4 : u = 0
    · subst h4
      rw [if_pos (show nI 0 = 0 from rfl), if_pos rfl, nI_1]
      exact ih acc (a + 1) (p + 1) ha (by omega) (by omega) (by omega)
    · obtain ⟨v, rfl⟩ : ∃ v, u = v + 1 := ⟨u - 1, by omega⟩
      rw [if_neg (nI_ne0 (by omega) (by omega)), if_neg h4, nI_m1 (by omega), nI_sh1 (by omega), nI_or]
      exact ih _ v (p + 1) (or_lt30 ha (by omega)) (by omega) (by omega) (by omega)
def missN (m a : Nat) : Nat := msN m a 1000 0 a 0
theorem f_missing (w : MW) {m a : Nat} (hm : m < 2 ^ 30) (hA : a < 64) : f_X_missing w (nI m) (nI a) = some (some (.int (nI (missN m a))), w) :=
  missing_loop w hm hA 999 0 a 0 (by decide) (by omega) (by decide) (by decide)
def eoN (m : Nat) : Nat → Nat → Nat → Nat → Nat
  | 0, acc, _, _ => acc
  | n + 1, acc, b, p => if 30 ≤ p then acc else if m.testBit p = false then eoN m n acc b (p + 1) else if b = 0 then eoN m n acc 1 (p + 1) else eoN m n (acc ||| 1 <<< p) 0 (p + 1)
theorem every_loop (w : MW) {m : Nat} (hm : m < 2 ^ 30) : ∀ (n acc b p : Nat), acc < 2 ^ 30 → b < 2 → p < 1000 → 30 ≤ p + n → f_X_everyOther_6 (n + 1) w (nI m) (nI acc) (nI b) (nI p) = some (some (.int (nI (eoN m (n + 1) acc b p))), w) := by
  intro n
  induction n with
  | zero =>
    intro acc u p ha hu hp h
    rw [f_X_everyOther_6, eoN]
    have h2 : 30 ≤ p := by omega
    rw [if_pos ((c30_le (by omega)).mpr h2), if_pos h2]
  | succ n ih =>
    intro acc b p ha hu hp h
    rw [f_X_everyOther_6, eoN]
    by_cases h2 : 30 ≤ p
    · rw [if_pos ((c30_le (by omega)).mpr h2), if_pos h2]
    rw [if_neg (fun q => h2 ((c30_le (by omega)).mp q)), if_neg h2, nI_1]
    have hb := nI_bit (m := m) (p := p) (by omega) (by omega)
    by_cases h3 : m.testBit p = false
    · rw [if_pos (hb.mpr h3), if_pos h3]
      exact ih acc b (p + 1) ha hu (by omega) (by omega)
    rw [if_neg (fun q => h3 (hb.mp q)), if_neg h3]
    by_cases h4 : b = 0
    · subst h4
      rw [if_pos (show nI 0 = 0 from rfl), if_pos (show nI 0 = 0 from rfl), if_pos rfl]
      exact ih acc 1 (p + 1) ha (by omega) (by omega) (by omega)
    · rw [if_neg (nI_ne0 (by omega) (by omega)), if_neg (nI_ne0 (by omega) (by omega)), if_neg h4, nI_sh1 (by omega), nI_or]
      exact ih _ 0 (p + 1) (or_lt30 ha (by omega)) (by omega) (by omega) (by omega)
def everyN (m : Nat) : Nat := eoN m 1000 0 1 0
theorem f_every (w : MW) {m : Nat} (hm : m < 2 ^ 30) : f_X_everyOther w (nI m) = some (some (.int (nI (everyN m))), w) :=
  every_loop w hm 999 0 1 0 (by decide) (by decide) (by decide) (by decide)
