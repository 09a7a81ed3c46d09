/-! the world at the start -/
def W0 (sc : Nat → Int32) (N : Nat) : MW := (fun a => if a = 81 then (fun j => ABV.getD j 0) else if a = 82 then (fun j => BDS.getD j 0) else if a = 83 then sc else fun j =>
  if (((3 ≤ a ∧ a ≤ 10) ∨ (14 ≤ a ∧ a ≤ 21) ∨ (25 ≤ a ∧ a ≤ 32)) ∧ j = 3) ∨ ((35 ≤ a ∧ a ≤ 49 ∧ a % 2 = 1) ∧ j = 0) ∨ (a = 0 ∧ j = 9) ∨ (a = 52 ∧ j = 3) ∨ (a = 63 ∧ j < 8) ∨ (a = 62 ∧ j = 13) then -nI 1
  else if ((a = 1 ∨ a = 12 ∨ a = 23) ∧ j = 4) ∨ (a = 62 ∧ j = 12) then nI 1 else nI 0, fun _ _ => 0, N)
theorem W0_m {sc : Nat → Int32} {N a j : Nat} (h : a < 81) (p : (((3 ≤ a ∧ a ≤ 10) ∨ (14 ≤ a ∧ a ≤ 21) ∨ (25 ≤ a ∧ a ≤ 32)) ∧ j = 3) ∨ ((35 ≤ a ∧ a ≤ 49 ∧ a % 2 = 1) ∧ j = 0) ∨ (a = 0 ∧ j = 9) ∨ (a = 52 ∧ j = 3) ∨ (a = 63 ∧ j < 8) ∨ (a = 62 ∧ j = 13)) : (W0 sc N).1 a j = -nI 1 := by
  unfold W0
  simp only []
  rw [if_neg (show ¬ a = 81 by omega), if_neg (show ¬ a = 82 by omega), if_neg (show ¬ a = 83 by omega), if_pos p]
theorem W0_1 {sc : Nat → Int32} {N a j : Nat} (h : a < 81) (p : ((a = 1 ∨ a = 12 ∨ a = 23) ∧ j = 4) ∨ (a = 62 ∧ j = 12)) : (W0 sc N).1 a j = nI 1 := by
  unfold W0
  simp only []
  rw [if_neg (show ¬ a = 81 by omega), if_neg (show ¬ a = 82 by omega), if_neg (show ¬ a = 83 by omega), if_neg (by omega), if_pos p]
theorem W0_0 {sc : Nat → Int32} {N a j : Nat} (h : a < 81) (p : ¬ ((((3 ≤ a ∧ a ≤ 10) ∨ (14 ≤ a ∧ a ≤ 21) ∨ (25 ≤ a ∧ a ≤ 32)) ∧ j = 3) ∨ ((35 ≤ a ∧ a ≤ 49 ∧ a % 2 = 1) ∧ j = 0) ∨ (a = 0 ∧ j = 9) ∨ (a = 52 ∧ j = 3) ∨ (a = 63 ∧ j < 8) ∨ (a = 62 ∧ j = 13))) (q : ¬ (((a = 1 ∨ a = 12 ∨ a = 23) ∧ j = 4) ∨ (a = 62 ∧ j = 12))) : (W0 sc N).1 a j = nI 0 := by
  unfold W0
  simp only []
  rw [if_neg (show ¬ a = 81 by omega), if_neg (show ¬ a = 82 by omega), if_neg (show ¬ a = 83 by omega), if_neg p, if_neg q]
theorem inv_W0 {sc : Nat → Int32} {N : Nat} : Inv sc N (W0 sc N) := by
  refine ⟨⟨0, 0, fun _ => 0, fun _ => 0, fun _ => 0, fun _ => 0, fun _ => 0, ⟨⟨?_, ?_, fun i hi => by omega, fun p hp => by omega⟩, ⟨?_, ?_, fun i hi => by omega, fun p hp => by omega⟩, ⟨by omega, by omega, fun i hi => by omega⟩, fun i hi => by omega, fun i hi => by omega, ?_⟩, fun s hs => .inl ⟨?_, ?_, ?_⟩⟩, ⟨?_, fun j h1 h2 => ?_⟩, ⟨0, by omega, ?_, ?_, fun i hi => by omega⟩, .inl ⟨?_, ?_⟩, ⟨fun j _ => rfl, fun j _ => rfl, rfl, rfl, 0, fun _ => 0, ?_, by omega, fun p hp => by omega, fun p hp => by omega⟩⟩
  · exact W0_0 (by omega) (by omega) (by omega)
  · exact W0_0 (by omega) (by omega) (by omega)
  · exact W0_0 (by omega) (by omega) (by omega)
  · exact W0_0 (by omega) (by omega) (by omega)
  · rw [W0_1 (by omega) (by omega), W0_1 (by omega) (by omega)]
  · exact W0_m (by omega) (by omega)
  · exact W0_m (by omega) (by omega)
  · exact W0_0 (by omega) (by omega) (by omega)
  · rw [W0_m (by omega) (by omega), W0_m (by omega) (by omega)]
  · rw [W0_0 (by omega) (by omega) (by omega), W0_0 (by omega) (by omega) (by omega)]
  · exact W0_0 (by omega) (by omega) (by omega)
  · exact W0_0 (by omega) (by omega) (by omega)
  · exact W0_0 (by omega) (by omega) (by omega)
  · exact W0_0 (by omega) (by omega) (by omega)
  · exact W0_0 (by omega) (by omega) (by omega)
theorem law_W0 {sc : Nat → Int32} {N : Nat} (hN : N ≤ 3072) : ∃ w', f_L_law (W0 sc N) = some (some (.int (1 : Int32)), w') := by
  obtain ⟨r, w', e, v, rfl, rfl⟩ := law_all hN (inv_W0 (sc := sc) (N := N))
  exact ⟨w', e⟩
