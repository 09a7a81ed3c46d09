/-! what is heard: the places of a kind, as a number -/
def thN (lo hi : Nat) : Nat → Nat → Nat → Nat
  | 0, acc, _ => acc
  | n + 1, acc, p => if hi ≤ p then acc else if 30 ≤ p then acc else if p < lo then thN lo hi n acc (p + 3) else thN lo hi n (acc ||| 1 <<< p) (p + 3)
theorem or_lt30 {a p : Nat} (ha : a < 2 ^ 30) (hp : p < 30) : a ||| 1 <<< p < 2 ^ 30 := by
  refine Nat.or_lt_two_pow ha ?_
  rw [Nat.one_shiftLeft]
  exact Nat.pow_lt_pow_right (by decide) hp
theorem thirds_loop (w : MW) (lo hi : Nat) (hlo : lo < 1000) (hhi : hi < 1000) : ∀ (n acc p : Nat), acc < 2 ^ 30 → p < 1000 → 30 ≤ p + 3 * n → f_X_thirds_7 (n + 1) w (nI lo) (nI hi) (nI acc) (nI p) = some (some (.int (nI (thN lo hi (n + 1) acc p))), w) := by
  intro n
  induction n with
  | zero =>
    intro acc p ha hp h
    rw [f_X_thirds_7, thN]
    by_cases h1 : hi ≤ p
    · rw [if_pos ((nI_leI (by omega) (by omega)).mpr h1), if_pos h1]
    · rw [if_neg (fun q => h1 ((nI_leI (by omega) (by omega)).mp q)), if_neg h1]
      have h2 : 30 ≤ p := by omega
      rw [if_pos (show (30 : Int32) ≤ nI p from (nI_leI (a := 30) (by omega) (by omega)).mpr h2), if_pos h2]
  | succ n ih =>
    intro acc p ha hp h
    rw [f_X_thirds_7, thN]
    by_cases h1 : hi ≤ p
    · rw [if_pos ((nI_leI (by omega) (by omega)).mpr h1), if_pos h1]
    rw [if_neg (fun q => h1 ((nI_leI (by omega) (by omega)).mp q)), if_neg h1]
    by_cases h2 : 30 ≤ p
    · rw [if_pos (show (30 : Int32) ≤ nI p from (nI_leI (a := 30) (by omega) (by omega)).mpr h2), if_pos h2]
    rw [if_neg (show ¬ (30 : Int32) ≤ nI p from fun q => h2 ((nI_leI (a := 30) (by omega) (by omega)).mp q)), if_neg h2]
    have e3 : nI p + 3 = nI (p + 3) := nI_add p 3
    by_cases h3 : p < lo
    · rw [if_pos ((nI_ltI (by omega) (by omega)).mpr h3), if_pos h3, e3]
      exact ih acc (p + 3) ha (by omega) (by omega)
    · rw [if_neg (fun q => h3 ((nI_ltI (by omega) (by omega)).mp q)), if_neg h3, e3, nI_sh1 (by omega), nI_or]
      exact ih _ (p + 3) (or_lt30 ha (by omega)) (by omega) (by omega)
def thirdsN (f lo hi : Nat) : Nat := thN lo hi 1000 0 (f % 3)
theorem mod3_nI {f : Nat} (h : f < 64) : nI f - nI f / 3 * 3 = nI (f % 3) := by
  have key : ∀ f, f < 64 → nI f - nI f / 3 * 3 = nI (f % 3) := by decide +kernel
  exact key f h
theorem f_thirds (w : MW) {f lo hi : Nat} (hf : f < 64) (hlo : lo < 1000) (hhi : hi < 1000) : f_X_thirds w (nI f) (nI lo) (nI hi) = some (some (.int (nI (thirdsN f lo hi))), w) := by
  unfold f_X_thirds
  rw [mod3_nI hf]
  exact thirds_loop w lo hi hlo hhi 999 0 (f % 3) (by decide) (by omega) (by omega)
