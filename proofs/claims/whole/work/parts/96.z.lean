/-! the start world's cells, written out -/
theorem lc {α : Type} {a b : α} {l m : List α} (h : a = b) (k : l = m) : a :: l = b :: m := by rw [h, k]
theorem fv_r {φ : Nat → Nat} {w : MW} {a j b : Nat} (h : rfo a j = some b) : fval φ w a j = .ref (φ b) := by simp only [fval, h]
theorem fv_i {φ : Nat → Nat} {w : MW} {a j : Nat} {x : Int32} (h : rfo a j = none) (e : w.1 a j = x) : fval φ w a j = .int x := by simp only [fval, h, e]
theorem zm {x : Int32} (h : x = -nI 1) : x = -1 := h.trans (by decide)
theorem z1 {x : Int32} (h : x = nI 1) : x = 1 := h.trans (by decide)
theorem z0 {x : Int32} (h : x = nI 0) : x = 0 := h.trans (by decide)
theorem zz {sc : Nat → Int32} {N a : Nat} (h : a < 81) (p : ∀ j : Nat, ¬ ((((3 ≤ a ∧ a ≤ 10) ∨ (14 ≤ a ∧ a ≤ 21) ∨ (25 ≤ a ∧ a ≤ 32)) ∧ j = 3) ∨ ((35 ≤ a ∧ a ≤ 49 ∧ a % 2 = 1) ∧ j = 0) ∨ (a = 0 ∧ j = 9) ∨ (a = 52 ∧ j = 3) ∨ (a = 63 ∧ j < 8) ∨ (a = 62 ∧ j = 13))) (q : ∀ j : Nat, ¬ (((a = 1 ∨ a = 12 ∨ a = 23) ∧ j = 4) ∨ (a = 62 ∧ j = 12))) : (W0 sc N).1 a = fun _ => 0 := by
  funext j
  exact z0 (W0_0 h (p j) (q j))
theorem zr {φ : Nat → Nat} {a b : Nat} (h : ∀ j, j < 8 → rfo a j = some (b + j)) (h8 : ∀ j, 8 ≤ j → rfo a j = none) : (fun j => (rfo a j).map φ) = va_up (va_up (va_up (va_up (va_up (va_up (va_up (va_up (fun _ => none) 0 (some (φ b))) 1 (some (φ (b + 1)))) 2 (some (φ (b + 2)))) 3 (some (φ (b + 3)))) 4 (some (φ (b + 4)))) 5 (some (φ (b + 5)))) 6 (some (φ (b + 6)))) 7 (some (φ (b + 7))) := by
  funext j
  show (rfo a j).map φ = _
  by_cases hj : j < 8
  · rcases (show j = 0 ∨ j = 1 ∨ j = 2 ∨ j = 3 ∨ j = 4 ∨ j = 5 ∨ j = 6 ∨ j = 7 by omega) with rfl | rfl | rfl | rfl | rfl | rfl | rfl | rfl <;> (rw [h _ (by omega)]; rfl)
  · rw [h8 j (by omega), va_up_ne _ _ (by omega), va_up_ne _ _ (by omega), va_up_ne _ _ (by omega), va_up_ne _ _ (by omega), va_up_ne _ _ (by omega), va_up_ne _ _ (by omega), va_up_ne _ _ (by omega), va_up_ne _ _ (by omega)]
    rfl
theorem zs {φ : Nat → Nat} {a b : Nat} (h : ∀ j, j < 8 → rfo a j = some (b + 2 * j)) (h8 : ∀ j, 8 ≤ j → rfo a j = none) : (fun j => (rfo a j).map φ) = va_up (va_up (va_up (va_up (va_up (va_up (va_up (va_up (fun _ => none) 0 (some (φ b))) 1 (some (φ (b + 2)))) 2 (some (φ (b + 4)))) 3 (some (φ (b + 6)))) 4 (some (φ (b + 8)))) 5 (some (φ (b + 10)))) 6 (some (φ (b + 12)))) 7 (some (φ (b + 14))) := by
  funext j
  show (rfo a j).map φ = _
  by_cases hj : j < 8
  · rcases (show j = 0 ∨ j = 1 ∨ j = 2 ∨ j = 3 ∨ j = 4 ∨ j = 5 ∨ j = 6 ∨ j = 7 by omega) with rfl | rfl | rfl | rfl | rfl | rfl | rfl | rfl <;> (rw [h _ (by omega)]; rfl)
  · rw [h8 j (by omega), va_up_ne _ _ (by omega), va_up_ne _ _ (by omega), va_up_ne _ _ (by omega), va_up_ne _ _ (by omega), va_up_ne _ _ (by omega), va_up_ne _ _ (by omega), va_up_ne _ _ (by omega), va_up_ne _ _ (by omega)]
    rfl
theorem gd_none {l : List (Option Nat)} {j : Nat} (h : l.length ≤ j) : l.getD j none = none := by simp [h]
theorem zh {sc : Nat → Int32} {N : Nat} : (W0 sc N).1 63 = upd (upd (upd (upd (upd (upd (upd (upd (fun _ => 0) 0 (-1)) 1 (-1)) 2 (-1)) 3 (-1)) 4 (-1)) 5 (-1)) 6 (-1)) 7 (-1) := by
  funext j
  by_cases hj : j < 8
  · rw [W0_m (by omega) (by omega)]
    rcases (show j = 0 ∨ j = 1 ∨ j = 2 ∨ j = 3 ∨ j = 4 ∨ j = 5 ∨ j = 6 ∨ j = 7 by omega) with rfl | rfl | rfl | rfl | rfl | rfl | rfl | rfl <;> rfl
  · rw [W0_0 (by omega) (by omega) (by omega)]
    unfold upd
    simp only []
    rw [if_neg (show ¬ j = 7 by omega), if_neg (show ¬ j = 6 by omega), if_neg (show ¬ j = 5 by omega), if_neg (show ¬ j = 4 by omega), if_neg (show ¬ j = 3 by omega), if_neg (show ¬ j = 2 by omega), if_neg (show ¬ j = 1 by omega), if_neg (show ¬ j = 0 by omega)]
    rfl
section ZC
variable {φ : Nat → Nat} {cy : Nat → ClassId} {sc : Nat → Int32} {N : Nat}
theorem z_0 : cell φ cy (W0 sc N) 0 = .inr (7, [.ref (φ 1), .ref (φ 12), .ref (φ 34), .ref (φ 51), .ref (φ 52), .ref (φ 53), .ref (φ 57), .ref (φ 60), .int 0, .int (-1)]) := by
  rw [cell_obj (a := 0) (ci := 7) rfl (by decide)]
  have h : [fval φ (W0 sc N) 0 0, fval φ (W0 sc N) 0 1, fval φ (W0 sc N) 0 2, fval φ (W0 sc N) 0 3, fval φ (W0 sc N) 0 4, fval φ (W0 sc N) 0 5, fval φ (W0 sc N) 0 6, fval φ (W0 sc N) 0 7, fval φ (W0 sc N) 0 8, fval φ (W0 sc N) 0 9] = ([.ref (φ 1), .ref (φ 12), .ref (φ 34), .ref (φ 51), .ref (φ 52), .ref (φ 53), .ref (φ 57), .ref (φ 60), .int 0, .int (-1)] : List Value) := (lc (fv_r (b := 1) rfl) (lc (fv_r (b := 12) rfl) (lc (fv_r (b := 34) rfl) (lc (fv_r (b := 51) rfl) (lc (fv_r (b := 52) rfl) (lc (fv_r (b := 53) rfl) (lc (fv_r (b := 57) rfl) (lc (fv_r (b := 60) rfl) (lc (fv_i rfl (z0 (W0_0 (by omega) (by omega) (by omega)))) (lc (fv_i rfl (zm (W0_m (by omega) (by omega)))) rfl))))))))))
  exact congrArg (fun l => (Sum.inr (7, l) : va_E)) h
theorem z_1 : cell φ cy (W0 sc N) 1 = .inr (2, [.ref (φ 2), .int 0, .ref (φ 11), .int 0, .int (1)]) := by
  rw [cell_obj (a := 1) (ci := 2) rfl (by decide)]
  have h : [fval φ (W0 sc N) 1 0, fval φ (W0 sc N) 1 1, fval φ (W0 sc N) 1 2, fval φ (W0 sc N) 1 3, fval φ (W0 sc N) 1 4] = ([.ref (φ 2), .int 0, .ref (φ 11), .int 0, .int (1)] : List Value) := (lc (fv_r (b := 2) rfl) (lc (fv_i rfl (z0 (W0_0 (by omega) (by omega) (by omega)))) (lc (fv_r (b := 11) rfl) (lc (fv_i rfl (z0 (W0_0 (by omega) (by omega) (by omega)))) (lc (fv_i rfl (z1 (W0_1 (by omega) (by omega)))) rfl)))))
  exact congrArg (fun l => (Sum.inr (2, l) : va_E)) h
theorem z_2 : cell φ cy (W0 sc N) 2 = mrw cy (φ 3) (φ 4) (φ 5) (φ 6) (φ 7) (φ 8) (φ 9) (φ 10) := by
  rw [cell_ref (a := 2) (k := 2) rfl (by decide), zr (a := 2) (b := 3) (by decide +kernel) (fun j hj => gd_none hj)]
  rfl
theorem z_3 : cell φ cy (W0 sc N) 3 = mn1 := by
  rw [cell_obj (a := 3) (ci := 3) rfl (by decide)]
  have h : [fval φ (W0 sc N) 3 0, fval φ (W0 sc N) 3 1, fval φ (W0 sc N) 3 2, fval φ (W0 sc N) 3 3, fval φ (W0 sc N) 3 4, fval φ (W0 sc N) 3 5] = ([.int 0, .int 0, .int 0, .int (-1), .int 0, .int 0] : List Value) := (lc (fv_i rfl (z0 (W0_0 (by omega) (by omega) (by omega)))) (lc (fv_i rfl (z0 (W0_0 (by omega) (by omega) (by omega)))) (lc (fv_i rfl (z0 (W0_0 (by omega) (by omega) (by omega)))) (lc (fv_i rfl (zm (W0_m (by omega) (by omega)))) (lc (fv_i rfl (z0 (W0_0 (by omega) (by omega) (by omega)))) (lc (fv_i rfl (z0 (W0_0 (by omega) (by omega) (by omega)))) rfl))))))
  exact congrArg (fun l => (Sum.inr (3, l) : va_E)) h
theorem z_4 : cell φ cy (W0 sc N) 4 = mn1 := by
  rw [cell_obj (a := 4) (ci := 3) rfl (by decide)]
  have h : [fval φ (W0 sc N) 4 0, fval φ (W0 sc N) 4 1, fval φ (W0 sc N) 4 2, fval φ (W0 sc N) 4 3, fval φ (W0 sc N) 4 4, fval φ (W0 sc N) 4 5] = ([.int 0, .int 0, .int 0, .int (-1), .int 0, .int 0] : List Value) := (lc (fv_i rfl (z0 (W0_0 (by omega) (by omega) (by omega)))) (lc (fv_i rfl (z0 (W0_0 (by omega) (by omega) (by omega)))) (lc (fv_i rfl (z0 (W0_0 (by omega) (by omega) (by omega)))) (lc (fv_i rfl (zm (W0_m (by omega) (by omega)))) (lc (fv_i rfl (z0 (W0_0 (by omega) (by omega) (by omega)))) (lc (fv_i rfl (z0 (W0_0 (by omega) (by omega) (by omega)))) rfl))))))
  exact congrArg (fun l => (Sum.inr (3, l) : va_E)) h
theorem z_5 : cell φ cy (W0 sc N) 5 = mn1 := by
  rw [cell_obj (a := 5) (ci := 3) rfl (by decide)]
  have h : [fval φ (W0 sc N) 5 0, fval φ (W0 sc N) 5 1, fval φ (W0 sc N) 5 2, fval φ (W0 sc N) 5 3, fval φ (W0 sc N) 5 4, fval φ (W0 sc N) 5 5] = ([.int 0, .int 0, .int 0, .int (-1), .int 0, .int 0] : List Value) := (lc (fv_i rfl (z0 (W0_0 (by omega) (by omega) (by omega)))) (lc (fv_i rfl (z0 (W0_0 (by omega) (by omega) (by omega)))) (lc (fv_i rfl (z0 (W0_0 (by omega) (by omega) (by omega)))) (lc (fv_i rfl (zm (W0_m (by omega) (by omega)))) (lc (fv_i rfl (z0 (W0_0 (by omega) (by omega) (by omega)))) (lc (fv_i rfl (z0 (W0_0 (by omega) (by omega) (by omega)))) rfl))))))
  exact congrArg (fun l => (Sum.inr (3, l) : va_E)) h
theorem z_6 : cell φ cy (W0 sc N) 6 = mn1 := by
  rw [cell_obj (a := 6) (ci := 3) rfl (by decide)]
  have h : [fval φ (W0 sc N) 6 0, fval φ (W0 sc N) 6 1, fval φ (W0 sc N) 6 2, fval φ (W0 sc N) 6 3, fval φ (W0 sc N) 6 4, fval φ (W0 sc N) 6 5] = ([.int 0, .int 0, .int 0, .int (-1), .int 0, .int 0] : List Value) := (lc (fv_i rfl (z0 (W0_0 (by omega) (by omega) (by omega)))) (lc (fv_i rfl (z0 (W0_0 (by omega) (by omega) (by omega)))) (lc (fv_i rfl (z0 (W0_0 (by omega) (by omega) (by omega)))) (lc (fv_i rfl (zm (W0_m (by omega) (by omega)))) (lc (fv_i rfl (z0 (W0_0 (by omega) (by omega) (by omega)))) (lc (fv_i rfl (z0 (W0_0 (by omega) (by omega) (by omega)))) rfl))))))
  exact congrArg (fun l => (Sum.inr (3, l) : va_E)) h
theorem z_7 : cell φ cy (W0 sc N) 7 = mn1 := by
  rw [cell_obj (a := 7) (ci := 3) rfl (by decide)]
  have h : [fval φ (W0 sc N) 7 0, fval φ (W0 sc N) 7 1, fval φ (W0 sc N) 7 2, fval φ (W0 sc N) 7 3, fval φ (W0 sc N) 7 4, fval φ (W0 sc N) 7 5] = ([.int 0, .int 0, .int 0, .int (-1), .int 0, .int 0] : List Value) := (lc (fv_i rfl (z0 (W0_0 (by omega) (by omega) (by omega)))) (lc (fv_i rfl (z0 (W0_0 (by omega) (by omega) (by omega)))) (lc (fv_i rfl (z0 (W0_0 (by omega) (by omega) (by omega)))) (lc (fv_i rfl (zm (W0_m (by omega) (by omega)))) (lc (fv_i rfl (z0 (W0_0 (by omega) (by omega) (by omega)))) (lc (fv_i rfl (z0 (W0_0 (by omega) (by omega) (by omega)))) rfl))))))
  exact congrArg (fun l => (Sum.inr (3, l) : va_E)) h
theorem z_8 : cell φ cy (W0 sc N) 8 = mn1 := by
  rw [cell_obj (a := 8) (ci := 3) rfl (by decide)]
  have h : [fval φ (W0 sc N) 8 0, fval φ (W0 sc N) 8 1, fval φ (W0 sc N) 8 2, fval φ (W0 sc N) 8 3, fval φ (W0 sc N) 8 4, fval φ (W0 sc N) 8 5] = ([.int 0, .int 0, .int 0, .int (-1), .int 0, .int 0] : List Value) := (lc (fv_i rfl (z0 (W0_0 (by omega) (by omega) (by omega)))) (lc (fv_i rfl (z0 (W0_0 (by omega) (by omega) (by omega)))) (lc (fv_i rfl (z0 (W0_0 (by omega) (by omega) (by omega)))) (lc (fv_i rfl (zm (W0_m (by omega) (by omega)))) (lc (fv_i rfl (z0 (W0_0 (by omega) (by omega) (by omega)))) (lc (fv_i rfl (z0 (W0_0 (by omega) (by omega) (by omega)))) rfl))))))
  exact congrArg (fun l => (Sum.inr (3, l) : va_E)) h
theorem z_9 : cell φ cy (W0 sc N) 9 = mn1 := by
  rw [cell_obj (a := 9) (ci := 3) rfl (by decide)]
  have h : [fval φ (W0 sc N) 9 0, fval φ (W0 sc N) 9 1, fval φ (W0 sc N) 9 2, fval φ (W0 sc N) 9 3, fval φ (W0 sc N) 9 4, fval φ (W0 sc N) 9 5] = ([.int 0, .int 0, .int 0, .int (-1), .int 0, .int 0] : List Value) := (lc (fv_i rfl (z0 (W0_0 (by omega) (by omega) (by omega)))) (lc (fv_i rfl (z0 (W0_0 (by omega) (by omega) (by omega)))) (lc (fv_i rfl (z0 (W0_0 (by omega) (by omega) (by omega)))) (lc (fv_i rfl (zm (W0_m (by omega) (by omega)))) (lc (fv_i rfl (z0 (W0_0 (by omega) (by omega) (by omega)))) (lc (fv_i rfl (z0 (W0_0 (by omega) (by omega) (by omega)))) rfl))))))
  exact congrArg (fun l => (Sum.inr (3, l) : va_E)) h
theorem z_10 : cell φ cy (W0 sc N) 10 = mn1 := by
  rw [cell_obj (a := 10) (ci := 3) rfl (by decide)]
  have h : [fval φ (W0 sc N) 10 0, fval φ (W0 sc N) 10 1, fval φ (W0 sc N) 10 2, fval φ (W0 sc N) 10 3, fval φ (W0 sc N) 10 4, fval φ (W0 sc N) 10 5] = ([.int 0, .int 0, .int 0, .int (-1), .int 0, .int 0] : List Value) := (lc (fv_i rfl (z0 (W0_0 (by omega) (by omega) (by omega)))) (lc (fv_i rfl (z0 (W0_0 (by omega) (by omega) (by omega)))) (lc (fv_i rfl (z0 (W0_0 (by omega) (by omega) (by omega)))) (lc (fv_i rfl (zm (W0_m (by omega) (by omega)))) (lc (fv_i rfl (z0 (W0_0 (by omega) (by omega) (by omega)))) (lc (fv_i rfl (z0 (W0_0 (by omega) (by omega) (by omega)))) rfl))))))
  exact congrArg (fun l => (Sum.inr (3, l) : va_E)) h
theorem z_11 : cell φ cy (W0 sc N) 11 = .inl (cy 0, (30, .inl (fun _ => 0))) := by
  rw [cell_int (a := 11) rfl, zz (a := 11) (by omega) (by intro j; omega) (by intro j; omega)]
  rfl
theorem z_12 : cell φ cy (W0 sc N) 12 = .inr (2, [.ref (φ 13), .int 0, .ref (φ 22), .int 0, .int (1)]) := by
  rw [cell_obj (a := 12) (ci := 2) rfl (by decide)]
  have h : [fval φ (W0 sc N) 12 0, fval φ (W0 sc N) 12 1, fval φ (W0 sc N) 12 2, fval φ (W0 sc N) 12 3, fval φ (W0 sc N) 12 4] = ([.ref (φ 13), .int 0, .ref (φ 22), .int 0, .int (1)] : List Value) := (lc (fv_r (b := 13) rfl) (lc (fv_i rfl (z0 (W0_0 (by omega) (by omega) (by omega)))) (lc (fv_r (b := 22) rfl) (lc (fv_i rfl (z0 (W0_0 (by omega) (by omega) (by omega)))) (lc (fv_i rfl (z1 (W0_1 (by omega) (by omega)))) rfl)))))
  exact congrArg (fun l => (Sum.inr (2, l) : va_E)) h
theorem z_13 : cell φ cy (W0 sc N) 13 = mrw cy (φ 14) (φ 15) (φ 16) (φ 17) (φ 18) (φ 19) (φ 20) (φ 21) := by
  rw [cell_ref (a := 13) (k := 2) rfl (by decide), zr (a := 13) (b := 14) (by decide +kernel) (fun j hj => gd_none hj)]
  rfl
theorem z_14 : cell φ cy (W0 sc N) 14 = mn1 := by
  rw [cell_obj (a := 14) (ci := 3) rfl (by decide)]
  have h : [fval φ (W0 sc N) 14 0, fval φ (W0 sc N) 14 1, fval φ (W0 sc N) 14 2, fval φ (W0 sc N) 14 3, fval φ (W0 sc N) 14 4, fval φ (W0 sc N) 14 5] = ([.int 0, .int 0, .int 0, .int (-1), .int 0, .int 0] : List Value) := (lc (fv_i rfl (z0 (W0_0 (by omega) (by omega) (by omega)))) (lc (fv_i rfl (z0 (W0_0 (by omega) (by omega) (by omega)))) (lc (fv_i rfl (z0 (W0_0 (by omega) (by omega) (by omega)))) (lc (fv_i rfl (zm (W0_m (by omega) (by omega)))) (lc (fv_i rfl (z0 (W0_0 (by omega) (by omega) (by omega)))) (lc (fv_i rfl (z0 (W0_0 (by omega) (by omega) (by omega)))) rfl))))))
  exact congrArg (fun l => (Sum.inr (3, l) : va_E)) h
theorem z_15 : cell φ cy (W0 sc N) 15 = mn1 := by
  rw [cell_obj (a := 15) (ci := 3) rfl (by decide)]
  have h : [fval φ (W0 sc N) 15 0, fval φ (W0 sc N) 15 1, fval φ (W0 sc N) 15 2, fval φ (W0 sc N) 15 3, fval φ (W0 sc N) 15 4, fval φ (W0 sc N) 15 5] = ([.int 0, .int 0, .int 0, .int (-1), .int 0, .int 0] : List Value) := (lc (fv_i rfl (z0 (W0_0 (by omega) (by omega) (by omega)))) (lc (fv_i rfl (z0 (W0_0 (by omega) (by omega) (by omega)))) (lc (fv_i rfl (z0 (W0_0 (by omega) (by omega) (by omega)))) (lc (fv_i rfl (zm (W0_m (by omega) (by omega)))) (lc (fv_i rfl (z0 (W0_0 (by omega) (by omega) (by omega)))) (lc (fv_i rfl (z0 (W0_0 (by omega) (by omega) (by omega)))) rfl))))))
  exact congrArg (fun l => (Sum.inr (3, l) : va_E)) h
theorem z_16 : cell φ cy (W0 sc N) 16 = mn1 := by
  rw [cell_obj (a := 16) (ci := 3) rfl (by decide)]
  have h : [fval φ (W0 sc N) 16 0, fval φ (W0 sc N) 16 1, fval φ (W0 sc N) 16 2, fval φ (W0 sc N) 16 3, fval φ (W0 sc N) 16 4, fval φ (W0 sc N) 16 5] = ([.int 0, .int 0, .int 0, .int (-1), .int 0, .int 0] : List Value) := (lc (fv_i rfl (z0 (W0_0 (by omega) (by omega) (by omega)))) (lc (fv_i rfl (z0 (W0_0 (by omega) (by omega) (by omega)))) (lc (fv_i rfl (z0 (W0_0 (by omega) (by omega) (by omega)))) (lc (fv_i rfl (zm (W0_m (by omega) (by omega)))) (lc (fv_i rfl (z0 (W0_0 (by omega) (by omega) (by omega)))) (lc (fv_i rfl (z0 (W0_0 (by omega) (by omega) (by omega)))) rfl))))))
  exact congrArg (fun l => (Sum.inr (3, l) : va_E)) h
theorem z_17 : cell φ cy (W0 sc N) 17 = mn1 := by
  rw [cell_obj (a := 17) (ci := 3) rfl (by decide)]
  have h : [fval φ (W0 sc N) 17 0, fval φ (W0 sc N) 17 1, fval φ (W0 sc N) 17 2, fval φ (W0 sc N) 17 3, fval φ (W0 sc N) 17 4, fval φ (W0 sc N) 17 5] = ([.int 0, .int 0, .int 0, .int (-1), .int 0, .int 0] : List Value) := (lc (fv_i rfl (z0 (W0_0 (by omega) (by omega) (by omega)))) (lc (fv_i rfl (z0 (W0_0 (by omega) (by omega) (by omega)))) (lc (fv_i rfl (z0 (W0_0 (by omega) (by omega) (by omega)))) (lc (fv_i rfl (zm (W0_m (by omega) (by omega)))) (lc (fv_i rfl (z0 (W0_0 (by omega) (by omega) (by omega)))) (lc (fv_i rfl (z0 (W0_0 (by omega) (by omega) (by omega)))) rfl))))))
  exact congrArg (fun l => (Sum.inr (3, l) : va_E)) h
theorem z_18 : cell φ cy (W0 sc N) 18 = mn1 := by
  rw [cell_obj (a := 18) (ci := 3) rfl (by decide)]
  have h : [fval φ (W0 sc N) 18 0, fval φ (W0 sc N) 18 1, fval φ (W0 sc N) 18 2, fval φ (W0 sc N) 18 3, fval φ (W0 sc N) 18 4, fval φ (W0 sc N) 18 5] = ([.int 0, .int 0, .int 0, .int (-1), .int 0, .int 0] : List Value) := (lc (fv_i rfl (z0 (W0_0 (by omega) (by omega) (by omega)))) (lc (fv_i rfl (z0 (W0_0 (by omega) (by omega) (by omega)))) (lc (fv_i rfl (z0 (W0_0 (by omega) (by omega) (by omega)))) (lc (fv_i rfl (zm (W0_m (by omega) (by omega)))) (lc (fv_i rfl (z0 (W0_0 (by omega) (by omega) (by omega)))) (lc (fv_i rfl (z0 (W0_0 (by omega) (by omega) (by omega)))) rfl))))))
  exact congrArg (fun l => (Sum.inr (3, l) : va_E)) h
theorem z_19 : cell φ cy (W0 sc N) 19 = mn1 := by
  rw [cell_obj (a := 19) (ci := 3) rfl (by decide)]
  have h : [fval φ (W0 sc N) 19 0, fval φ (W0 sc N) 19 1, fval φ (W0 sc N) 19 2, fval φ (W0 sc N) 19 3, fval φ (W0 sc N) 19 4, fval φ (W0 sc N) 19 5] = ([.int 0, .int 0, .int 0, .int (-1), .int 0, .int 0] : List Value) := (lc (fv_i rfl (z0 (W0_0 (by omega) (by omega) (by omega)))) (lc (fv_i rfl (z0 (W0_0 (by omega) (by omega) (by omega)))) (lc (fv_i rfl (z0 (W0_0 (by omega) (by omega) (by omega)))) (lc (fv_i rfl (zm (W0_m (by omega) (by omega)))) (lc (fv_i rfl (z0 (W0_0 (by omega) (by omega) (by omega)))) (lc (fv_i rfl (z0 (W0_0 (by omega) (by omega) (by omega)))) rfl))))))
  exact congrArg (fun l => (Sum.inr (3, l) : va_E)) h
theorem z_20 : cell φ cy (W0 sc N) 20 = mn1 := by
  rw [cell_obj (a := 20) (ci := 3) rfl (by decide)]
  have h : [fval φ (W0 sc N) 20 0, fval φ (W0 sc N) 20 1, fval φ (W0 sc N) 20 2, fval φ (W0 sc N) 20 3, fval φ (W0 sc N) 20 4, fval φ (W0 sc N) 20 5] = ([.int 0, .int 0, .int 0, .int (-1), .int 0, .int 0] : List Value) := (lc (fv_i rfl (z0 (W0_0 (by omega) (by omega) (by omega)))) (lc (fv_i rfl (z0 (W0_0 (by omega) (by omega) (by omega)))) (lc (fv_i rfl (z0 (W0_0 (by omega) (by omega) (by omega)))) (lc (fv_i rfl (zm (W0_m (by omega) (by omega)))) (lc (fv_i rfl (z0 (W0_0 (by omega) (by omega) (by omega)))) (lc (fv_i rfl (z0 (W0_0 (by omega) (by omega) (by omega)))) rfl))))))
  exact congrArg (fun l => (Sum.inr (3, l) : va_E)) h
theorem z_21 : cell φ cy (W0 sc N) 21 = mn1 := by
  rw [cell_obj (a := 21) (ci := 3) rfl (by decide)]
  have h : [fval φ (W0 sc N) 21 0, fval φ (W0 sc N) 21 1, fval φ (W0 sc N) 21 2, fval φ (W0 sc N) 21 3, fval φ (W0 sc N) 21 4, fval φ (W0 sc N) 21 5] = ([.int 0, .int 0, .int 0, .int (-1), .int 0, .int 0] : List Value) := (lc (fv_i rfl (z0 (W0_0 (by omega) (by omega) (by omega)))) (lc (fv_i rfl (z0 (W0_0 (by omega) (by omega) (by omega)))) (lc (fv_i rfl (z0 (W0_0 (by omega) (by omega) (by omega)))) (lc (fv_i rfl (zm (W0_m (by omega) (by omega)))) (lc (fv_i rfl (z0 (W0_0 (by omega) (by omega) (by omega)))) (lc (fv_i rfl (z0 (W0_0 (by omega) (by omega) (by omega)))) rfl))))))
  exact congrArg (fun l => (Sum.inr (3, l) : va_E)) h
theorem z_22 : cell φ cy (W0 sc N) 22 = .inl (cy 0, (30, .inl (fun _ => 0))) := by
  rw [cell_int (a := 22) rfl, zz (a := 22) (by omega) (by intro j; omega) (by intro j; omega)]
  rfl
theorem z_23 : cell φ cy (W0 sc N) 23 = .inr (2, [.ref (φ 24), .int 0, .ref (φ 33), .int 0, .int (1)]) := by
  rw [cell_obj (a := 23) (ci := 2) rfl (by decide)]
  have h : [fval φ (W0 sc N) 23 0, fval φ (W0 sc N) 23 1, fval φ (W0 sc N) 23 2, fval φ (W0 sc N) 23 3, fval φ (W0 sc N) 23 4] = ([.ref (φ 24), .int 0, .ref (φ 33), .int 0, .int (1)] : List Value) := (lc (fv_r (b := 24) rfl) (lc (fv_i rfl (z0 (W0_0 (by omega) (by omega) (by omega)))) (lc (fv_r (b := 33) rfl) (lc (fv_i rfl (z0 (W0_0 (by omega) (by omega) (by omega)))) (lc (fv_i rfl (z1 (W0_1 (by omega) (by omega)))) rfl)))))
  exact congrArg (fun l => (Sum.inr (2, l) : va_E)) h
theorem z_24 : cell φ cy (W0 sc N) 24 = mrw cy (φ 25) (φ 26) (φ 27) (φ 28) (φ 29) (φ 30) (φ 31) (φ 32) := by
  rw [cell_ref (a := 24) (k := 2) rfl (by decide), zr (a := 24) (b := 25) (by decide +kernel) (fun j hj => gd_none hj)]
  rfl
theorem z_25 : cell φ cy (W0 sc N) 25 = mn1 := by
  rw [cell_obj (a := 25) (ci := 3) rfl (by decide)]
  have h : [fval φ (W0 sc N) 25 0, fval φ (W0 sc N) 25 1, fval φ (W0 sc N) 25 2, fval φ (W0 sc N) 25 3, fval φ (W0 sc N) 25 4, fval φ (W0 sc N) 25 5] = ([.int 0, .int 0, .int 0, .int (-1), .int 0, .int 0] : List Value) := (lc (fv_i rfl (z0 (W0_0 (by omega) (by omega) (by omega)))) (lc (fv_i rfl (z0 (W0_0 (by omega) (by omega) (by omega)))) (lc (fv_i rfl (z0 (W0_0 (by omega) (by omega) (by omega)))) (lc (fv_i rfl (zm (W0_m (by omega) (by omega)))) (lc (fv_i rfl (z0 (W0_0 (by omega) (by omega) (by omega)))) (lc (fv_i rfl (z0 (W0_0 (by omega) (by omega) (by omega)))) rfl))))))
  exact congrArg (fun l => (Sum.inr (3, l) : va_E)) h
theorem z_26 : cell φ cy (W0 sc N) 26 = mn1 := by
  rw [cell_obj (a := 26) (ci := 3) rfl (by decide)]
  have h : [fval φ (W0 sc N) 26 0, fval φ (W0 sc N) 26 1, fval φ (W0 sc N) 26 2, fval φ (W0 sc N) 26 3, fval φ (W0 sc N) 26 4, fval φ (W0 sc N) 26 5] = ([.int 0, .int 0, .int 0, .int (-1), .int 0, .int 0] : List Value) := (lc (fv_i rfl (z0 (W0_0 (by omega) (by omega) (by omega)))) (lc (fv_i rfl (z0 (W0_0 (by omega) (by omega) (by omega)))) (lc (fv_i rfl (z0 (W0_0 (by omega) (by omega) (by omega)))) (lc (fv_i rfl (zm (W0_m (by omega) (by omega)))) (lc (fv_i rfl (z0 (W0_0 (by omega) (by omega) (by omega)))) (lc (fv_i rfl (z0 (W0_0 (by omega) (by omega) (by omega)))) rfl))))))
  exact congrArg (fun l => (Sum.inr (3, l) : va_E)) h
theorem z_27 : cell φ cy (W0 sc N) 27 = mn1 := by
  rw [cell_obj (a := 27) (ci := 3) rfl (by decide)]
  have h : [fval φ (W0 sc N) 27 0, fval φ (W0 sc N) 27 1, fval φ (W0 sc N) 27 2, fval φ (W0 sc N) 27 3, fval φ (W0 sc N) 27 4, fval φ (W0 sc N) 27 5] = ([.int 0, .int 0, .int 0, .int (-1), .int 0, .int 0] : List Value) := (lc (fv_i rfl (z0 (W0_0 (by omega) (by omega) (by omega)))) (lc (fv_i rfl (z0 (W0_0 (by omega) (by omega) (by omega)))) (lc (fv_i rfl (z0 (W0_0 (by omega) (by omega) (by omega)))) (lc (fv_i rfl (zm (W0_m (by omega) (by omega)))) (lc (fv_i rfl (z0 (W0_0 (by omega) (by omega) (by omega)))) (lc (fv_i rfl (z0 (W0_0 (by omega) (by omega) (by omega)))) rfl))))))
  exact congrArg (fun l => (Sum.inr (3, l) : va_E)) h
theorem z_28 : cell φ cy (W0 sc N) 28 = mn1 := by
  rw [cell_obj (a := 28) (ci := 3) rfl (by decide)]
  have h : [fval φ (W0 sc N) 28 0, fval φ (W0 sc N) 28 1, fval φ (W0 sc N) 28 2, fval φ (W0 sc N) 28 3, fval φ (W0 sc N) 28 4, fval φ (W0 sc N) 28 5] = ([.int 0, .int 0, .int 0, .int (-1), .int 0, .int 0] : List Value) := (lc (fv_i rfl (z0 (W0_0 (by omega) (by omega) (by omega)))) (lc (fv_i rfl (z0 (W0_0 (by omega) (by omega) (by omega)))) (lc (fv_i rfl (z0 (W0_0 (by omega) (by omega) (by omega)))) (lc (fv_i rfl (zm (W0_m (by omega) (by omega)))) (lc (fv_i rfl (z0 (W0_0 (by omega) (by omega) (by omega)))) (lc (fv_i rfl (z0 (W0_0 (by omega) (by omega) (by omega)))) rfl))))))
  exact congrArg (fun l => (Sum.inr (3, l) : va_E)) h
theorem z_29 : cell φ cy (W0 sc N) 29 = mn1 := by
  rw [cell_obj (a := 29) (ci := 3) rfl (by decide)]
  have h : [fval φ (W0 sc N) 29 0, fval φ (W0 sc N) 29 1, fval φ (W0 sc N) 29 2, fval φ (W0 sc N) 29 3, fval φ (W0 sc N) 29 4, fval φ (W0 sc N) 29 5] = ([.int 0, .int 0, .int 0, .int (-1), .int 0, .int 0] : List Value) := (lc (fv_i rfl (z0 (W0_0 (by omega) (by omega) (by omega)))) (lc (fv_i rfl (z0 (W0_0 (by omega) (by omega) (by omega)))) (lc (fv_i rfl (z0 (W0_0 (by omega) (by omega) (by omega)))) (lc (fv_i rfl (zm (W0_m (by omega) (by omega)))) (lc (fv_i rfl (z0 (W0_0 (by omega) (by omega) (by omega)))) (lc (fv_i rfl (z0 (W0_0 (by omega) (by omega) (by omega)))) rfl))))))
  exact congrArg (fun l => (Sum.inr (3, l) : va_E)) h
theorem z_30 : cell φ cy (W0 sc N) 30 = mn1 := by
  rw [cell_obj (a := 30) (ci := 3) rfl (by decide)]
  have h : [fval φ (W0 sc N) 30 0, fval φ (W0 sc N) 30 1, fval φ (W0 sc N) 30 2, fval φ (W0 sc N) 30 3, fval φ (W0 sc N) 30 4, fval φ (W0 sc N) 30 5] = ([.int 0, .int 0, .int 0, .int (-1), .int 0, .int 0] : List Value) := (lc (fv_i rfl (z0 (W0_0 (by omega) (by omega) (by omega)))) (lc (fv_i rfl (z0 (W0_0 (by omega) (by omega) (by omega)))) (lc (fv_i rfl (z0 (W0_0 (by omega) (by omega) (by omega)))) (lc (fv_i rfl (zm (W0_m (by omega) (by omega)))) (lc (fv_i rfl (z0 (W0_0 (by omega) (by omega) (by omega)))) (lc (fv_i rfl (z0 (W0_0 (by omega) (by omega) (by omega)))) rfl))))))
  exact congrArg (fun l => (Sum.inr (3, l) : va_E)) h
theorem z_31 : cell φ cy (W0 sc N) 31 = mn1 := by
  rw [cell_obj (a := 31) (ci := 3) rfl (by decide)]
  have h : [fval φ (W0 sc N) 31 0, fval φ (W0 sc N) 31 1, fval φ (W0 sc N) 31 2, fval φ (W0 sc N) 31 3, fval φ (W0 sc N) 31 4, fval φ (W0 sc N) 31 5] = ([.int 0, .int 0, .int 0, .int (-1), .int 0, .int 0] : List Value) := (lc (fv_i rfl (z0 (W0_0 (by omega) (by omega) (by omega)))) (lc (fv_i rfl (z0 (W0_0 (by omega) (by omega) (by omega)))) (lc (fv_i rfl (z0 (W0_0 (by omega) (by omega) (by omega)))) (lc (fv_i rfl (zm (W0_m (by omega) (by omega)))) (lc (fv_i rfl (z0 (W0_0 (by omega) (by omega) (by omega)))) (lc (fv_i rfl (z0 (W0_0 (by omega) (by omega) (by omega)))) rfl))))))
  exact congrArg (fun l => (Sum.inr (3, l) : va_E)) h
theorem z_32 : cell φ cy (W0 sc N) 32 = mn1 := by
  rw [cell_obj (a := 32) (ci := 3) rfl (by decide)]
  have h : [fval φ (W0 sc N) 32 0, fval φ (W0 sc N) 32 1, fval φ (W0 sc N) 32 2, fval φ (W0 sc N) 32 3, fval φ (W0 sc N) 32 4, fval φ (W0 sc N) 32 5] = ([.int 0, .int 0, .int 0, .int (-1), .int 0, .int 0] : List Value) := (lc (fv_i rfl (z0 (W0_0 (by omega) (by omega) (by omega)))) (lc (fv_i rfl (z0 (W0_0 (by omega) (by omega) (by omega)))) (lc (fv_i rfl (z0 (W0_0 (by omega) (by omega) (by omega)))) (lc (fv_i rfl (zm (W0_m (by omega) (by omega)))) (lc (fv_i rfl (z0 (W0_0 (by omega) (by omega) (by omega)))) (lc (fv_i rfl (z0 (W0_0 (by omega) (by omega) (by omega)))) rfl))))))
  exact congrArg (fun l => (Sum.inr (3, l) : va_E)) h
theorem z_33 : cell φ cy (W0 sc N) 33 = .inl (cy 0, (30, .inl (fun _ => 0))) := by
  rw [cell_int (a := 33) rfl, zz (a := 33) (by omega) (by intro j; omega) (by intro j; omega)]
  rfl
theorem z_34 : cell φ cy (W0 sc N) 34 = .inl (cy 3, (8, .inr (.inr (.inr (.inr (va_up (va_up (va_up (va_up (va_up (va_up (va_up (va_up (fun _ => none) 0 (some (φ 35))) 1 (some (φ 37))) 2 (some (φ 39))) 3 (some (φ 41))) 4 (some (φ 43))) 5 (some (φ 45))) 6 (some (φ 47))) 7 (some (φ 49)))))))) := by
  rw [cell_ref (a := 34) (k := 3) rfl (by decide), zs (a := 34) (b := 35) (by decide +kernel) (fun j hj => gd_none hj)]
  rfl
theorem z_35 : cell φ cy (W0 sc N) 35 = .inr (6, [.int (-1), .int 0, .ref (φ 36)]) := by
  rw [cell_obj (a := 35) (ci := 6) rfl (by decide)]
  have h : [fval φ (W0 sc N) 35 0, fval φ (W0 sc N) 35 1, fval φ (W0 sc N) 35 2] = ([.int (-1), .int 0, .ref (φ 36)] : List Value) := (lc (fv_i rfl (zm (W0_m (by omega) (by omega)))) (lc (fv_i rfl (z0 (W0_0 (by omega) (by omega) (by omega)))) (lc (fv_r (b := 36) rfl) rfl)))
  exact congrArg (fun l => (Sum.inr (6, l) : va_E)) h
theorem z_36 : cell φ cy (W0 sc N) 36 = .inl (cy 1, (160, .inr (.inl (fun _ => 0)))) := by
  rw [cell_long (a := 36) rfl]
  rfl
theorem z_37 : cell φ cy (W0 sc N) 37 = .inr (6, [.int (-1), .int 0, .ref (φ 38)]) := by
  rw [cell_obj (a := 37) (ci := 6) rfl (by decide)]
  have h : [fval φ (W0 sc N) 37 0, fval φ (W0 sc N) 37 1, fval φ (W0 sc N) 37 2] = ([.int (-1), .int 0, .ref (φ 38)] : List Value) := (lc (fv_i rfl (zm (W0_m (by omega) (by omega)))) (lc (fv_i rfl (z0 (W0_0 (by omega) (by omega) (by omega)))) (lc (fv_r (b := 38) rfl) rfl)))
  exact congrArg (fun l => (Sum.inr (6, l) : va_E)) h
theorem z_38 : cell φ cy (W0 sc N) 38 = .inl (cy 1, (160, .inr (.inl (fun _ => 0)))) := by
  rw [cell_long (a := 38) rfl]
  rfl
theorem z_39 : cell φ cy (W0 sc N) 39 = .inr (6, [.int (-1), .int 0, .ref (φ 40)]) := by
  rw [cell_obj (a := 39) (ci := 6) rfl (by decide)]
  have h : [fval φ (W0 sc N) 39 0, fval φ (W0 sc N) 39 1, fval φ (W0 sc N) 39 2] = ([.int (-1), .int 0, .ref (φ 40)] : List Value) := (lc (fv_i rfl (zm (W0_m (by omega) (by omega)))) (lc (fv_i rfl (z0 (W0_0 (by omega) (by omega) (by omega)))) (lc (fv_r (b := 40) rfl) rfl)))
  exact congrArg (fun l => (Sum.inr (6, l) : va_E)) h
theorem z_40 : cell φ cy (W0 sc N) 40 = .inl (cy 1, (160, .inr (.inl (fun _ => 0)))) := by
  rw [cell_long (a := 40) rfl]
  rfl
theorem z_41 : cell φ cy (W0 sc N) 41 = .inr (6, [.int (-1), .int 0, .ref (φ 42)]) := by
  rw [cell_obj (a := 41) (ci := 6) rfl (by decide)]
  have h : [fval φ (W0 sc N) 41 0, fval φ (W0 sc N) 41 1, fval φ (W0 sc N) 41 2] = ([.int (-1), .int 0, .ref (φ 42)] : List Value) := (lc (fv_i rfl (zm (W0_m (by omega) (by omega)))) (lc (fv_i rfl (z0 (W0_0 (by omega) (by omega) (by omega)))) (lc (fv_r (b := 42) rfl) rfl)))
  exact congrArg (fun l => (Sum.inr (6, l) : va_E)) h
theorem z_42 : cell φ cy (W0 sc N) 42 = .inl (cy 1, (160, .inr (.inl (fun _ => 0)))) := by
  rw [cell_long (a := 42) rfl]
  rfl
theorem z_43 : cell φ cy (W0 sc N) 43 = .inr (6, [.int (-1), .int 0, .ref (φ 44)]) := by
  rw [cell_obj (a := 43) (ci := 6) rfl (by decide)]
  have h : [fval φ (W0 sc N) 43 0, fval φ (W0 sc N) 43 1, fval φ (W0 sc N) 43 2] = ([.int (-1), .int 0, .ref (φ 44)] : List Value) := (lc (fv_i rfl (zm (W0_m (by omega) (by omega)))) (lc (fv_i rfl (z0 (W0_0 (by omega) (by omega) (by omega)))) (lc (fv_r (b := 44) rfl) rfl)))
  exact congrArg (fun l => (Sum.inr (6, l) : va_E)) h
theorem z_44 : cell φ cy (W0 sc N) 44 = .inl (cy 1, (160, .inr (.inl (fun _ => 0)))) := by
  rw [cell_long (a := 44) rfl]
  rfl
theorem z_45 : cell φ cy (W0 sc N) 45 = .inr (6, [.int (-1), .int 0, .ref (φ 46)]) := by
  rw [cell_obj (a := 45) (ci := 6) rfl (by decide)]
  have h : [fval φ (W0 sc N) 45 0, fval φ (W0 sc N) 45 1, fval φ (W0 sc N) 45 2] = ([.int (-1), .int 0, .ref (φ 46)] : List Value) := (lc (fv_i rfl (zm (W0_m (by omega) (by omega)))) (lc (fv_i rfl (z0 (W0_0 (by omega) (by omega) (by omega)))) (lc (fv_r (b := 46) rfl) rfl)))
  exact congrArg (fun l => (Sum.inr (6, l) : va_E)) h
theorem z_46 : cell φ cy (W0 sc N) 46 = .inl (cy 1, (160, .inr (.inl (fun _ => 0)))) := by
  rw [cell_long (a := 46) rfl]
  rfl
theorem z_47 : cell φ cy (W0 sc N) 47 = .inr (6, [.int (-1), .int 0, .ref (φ 48)]) := by
  rw [cell_obj (a := 47) (ci := 6) rfl (by decide)]
  have h : [fval φ (W0 sc N) 47 0, fval φ (W0 sc N) 47 1, fval φ (W0 sc N) 47 2] = ([.int (-1), .int 0, .ref (φ 48)] : List Value) := (lc (fv_i rfl (zm (W0_m (by omega) (by omega)))) (lc (fv_i rfl (z0 (W0_0 (by omega) (by omega) (by omega)))) (lc (fv_r (b := 48) rfl) rfl)))
  exact congrArg (fun l => (Sum.inr (6, l) : va_E)) h
theorem z_48 : cell φ cy (W0 sc N) 48 = .inl (cy 1, (160, .inr (.inl (fun _ => 0)))) := by
  rw [cell_long (a := 48) rfl]
  rfl
theorem z_49 : cell φ cy (W0 sc N) 49 = .inr (6, [.int (-1), .int 0, .ref (φ 50)]) := by
  rw [cell_obj (a := 49) (ci := 6) rfl (by decide)]
  have h : [fval φ (W0 sc N) 49 0, fval φ (W0 sc N) 49 1, fval φ (W0 sc N) 49 2] = ([.int (-1), .int 0, .ref (φ 50)] : List Value) := (lc (fv_i rfl (zm (W0_m (by omega) (by omega)))) (lc (fv_i rfl (z0 (W0_0 (by omega) (by omega) (by omega)))) (lc (fv_r (b := 50) rfl) rfl)))
  exact congrArg (fun l => (Sum.inr (6, l) : va_E)) h
theorem z_50 : cell φ cy (W0 sc N) 50 = .inl (cy 1, (160, .inr (.inl (fun _ => 0)))) := by
  rw [cell_long (a := 50) rfl]
  rfl
theorem z_51 : cell φ cy (W0 sc N) 51 = .inl (cy 0, (8, .inl (fun _ => 0))) := by
  rw [cell_int (a := 51) rfl, zz (a := 51) (by omega) (by intro j; omega) (by intro j; omega)]
  rfl
theorem z_52 : cell φ cy (W0 sc N) 52 = .inr (5, [.ref (φ 23), .int 0, .int 0, .int (-1)]) := by
  rw [cell_obj (a := 52) (ci := 5) rfl (by decide)]
  have h : [fval φ (W0 sc N) 52 0, fval φ (W0 sc N) 52 1, fval φ (W0 sc N) 52 2, fval φ (W0 sc N) 52 3] = ([.ref (φ 23), .int 0, .int 0, .int (-1)] : List Value) := (lc (fv_r (b := 23) rfl) (lc (fv_i rfl (z0 (W0_0 (by omega) (by omega) (by omega)))) (lc (fv_i rfl (z0 (W0_0 (by omega) (by omega) (by omega)))) (lc (fv_i rfl (zm (W0_m (by omega) (by omega)))) rfl))))
  exact congrArg (fun l => (Sum.inr (5, l) : va_E)) h
theorem z_53 : cell φ cy (W0 sc N) 53 = .inr (0, [.ref (φ 54), .ref (φ 55), .ref (φ 56), .int 0]) := by
  rw [cell_obj (a := 53) (ci := 0) rfl (by decide)]
  have h : [fval φ (W0 sc N) 53 0, fval φ (W0 sc N) 53 1, fval φ (W0 sc N) 53 2, fval φ (W0 sc N) 53 3] = ([.ref (φ 54), .ref (φ 55), .ref (φ 56), .int 0] : List Value) := (lc (fv_r (b := 54) rfl) (lc (fv_r (b := 55) rfl) (lc (fv_r (b := 56) rfl) (lc (fv_i rfl (z0 (W0_0 (by omega) (by omega) (by omega)))) rfl))))
  exact congrArg (fun l => (Sum.inr (0, l) : va_E)) h
theorem z_54 : cell φ cy (W0 sc N) 54 = .inl (cy 0, (8, .inl (fun _ => 0))) := by
  rw [cell_int (a := 54) rfl, zz (a := 54) (by omega) (by intro j; omega) (by intro j; omega)]
  rfl
theorem z_55 : cell φ cy (W0 sc N) 55 = .inl (cy 0, (8, .inl (fun _ => 0))) := by
  rw [cell_int (a := 55) rfl, zz (a := 55) (by omega) (by intro j; omega) (by intro j; omega)]
  rfl
theorem z_56 : cell φ cy (W0 sc N) 56 = .inl (cy 0, (8, .inl (fun _ => 0))) := by
  rw [cell_int (a := 56) rfl, zz (a := 56) (by omega) (by intro j; omega) (by intro j; omega)]
  rfl
theorem z_57 : cell φ cy (W0 sc N) 57 = .inr (1, [.ref (φ 58), .ref (φ 59)]) := by
  rw [cell_obj (a := 57) (ci := 1) rfl (by decide)]
  have h : [fval φ (W0 sc N) 57 0, fval φ (W0 sc N) 57 1] = ([.ref (φ 58), .ref (φ 59)] : List Value) := (lc (fv_r (b := 58) rfl) (lc (fv_r (b := 59) rfl) rfl))
  exact congrArg (fun l => (Sum.inr (1, l) : va_E)) h
theorem z_58 : cell φ cy (W0 sc N) 58 = .inl (cy 0, (30, .inl (fun _ => 0))) := by
  rw [cell_int (a := 58) rfl, zz (a := 58) (by omega) (by intro j; omega) (by intro j; omega)]
  rfl
theorem z_59 : cell φ cy (W0 sc N) 59 = .inl (cy 0, (8, .inl (fun _ => 0))) := by
  rw [cell_int (a := 59) rfl, zz (a := 59) (by omega) (by intro j; omega) (by intro j; omega)]
  rfl
theorem z_60 : cell φ cy (W0 sc N) 60 = .inr (4, [.ref (φ 61), .int 0, .int 0, .int 0, .int 0]) := by
  rw [cell_obj (a := 60) (ci := 4) rfl (by decide)]
  have h : [fval φ (W0 sc N) 60 0, fval φ (W0 sc N) 60 1, fval φ (W0 sc N) 60 2, fval φ (W0 sc N) 60 3, fval φ (W0 sc N) 60 4] = ([.ref (φ 61), .int 0, .int 0, .int 0, .int 0] : List Value) := (lc (fv_r (b := 61) rfl) (lc (fv_i rfl (z0 (W0_0 (by omega) (by omega) (by omega)))) (lc (fv_i rfl (z0 (W0_0 (by omega) (by omega) (by omega)))) (lc (fv_i rfl (z0 (W0_0 (by omega) (by omega) (by omega)))) (lc (fv_i rfl (z0 (W0_0 (by omega) (by omega) (by omega)))) rfl)))))
  exact congrArg (fun l => (Sum.inr (4, l) : va_E)) h
theorem z_61 : cell φ cy (W0 sc N) 61 = .inl (cy 0, (20, .inl (fun _ => 0))) := by
  rw [cell_int (a := 61) rfl, zz (a := 61) (by omega) (by intro j; omega) (by intro j; omega)]
  rfl
theorem z_62 : cell φ cy (W0 sc N) 62 = .inr (8, [.ref (φ 63), .ref (φ 64), .ref (φ 65), .int 0, .ref (φ 66), .ref (φ 67), .ref (φ 68), .ref (φ 69), .ref (φ 70), .ref (φ 71), .int 0, .ref (φ 72), .int (1), .int (-1), .ref (φ 73), .int 0, .ref (φ 74), .int 0, .ref (φ 75), .ref (φ 76), .ref (φ 77), .ref (φ 78), .ref (φ 79), .int 0, .int 0, .ref (φ 80)]) := by
  rw [cell_obj (a := 62) (ci := 8) rfl (by decide)]
  have h : [fval φ (W0 sc N) 62 0, fval φ (W0 sc N) 62 1, fval φ (W0 sc N) 62 2, fval φ (W0 sc N) 62 3, fval φ (W0 sc N) 62 4, fval φ (W0 sc N) 62 5, fval φ (W0 sc N) 62 6, fval φ (W0 sc N) 62 7, fval φ (W0 sc N) 62 8, fval φ (W0 sc N) 62 9, fval φ (W0 sc N) 62 10, fval φ (W0 sc N) 62 11, fval φ (W0 sc N) 62 12, fval φ (W0 sc N) 62 13, fval φ (W0 sc N) 62 14, fval φ (W0 sc N) 62 15, fval φ (W0 sc N) 62 16, fval φ (W0 sc N) 62 17, fval φ (W0 sc N) 62 18, fval φ (W0 sc N) 62 19, fval φ (W0 sc N) 62 20, fval φ (W0 sc N) 62 21, fval φ (W0 sc N) 62 22, fval φ (W0 sc N) 62 23, fval φ (W0 sc N) 62 24, fval φ (W0 sc N) 62 25] = ([.ref (φ 63), .ref (φ 64), .ref (φ 65), .int 0, .ref (φ 66), .ref (φ 67), .ref (φ 68), .ref (φ 69), .ref (φ 70), .ref (φ 71), .int 0, .ref (φ 72), .int (1), .int (-1), .ref (φ 73), .int 0, .ref (φ 74), .int 0, .ref (φ 75), .ref (φ 76), .ref (φ 77), .ref (φ 78), .ref (φ 79), .int 0, .int 0, .ref (φ 80)] : List Value) := (lc (fv_r (b := 63) rfl) (lc (fv_r (b := 64) rfl) (lc (fv_r (b := 65) rfl) (lc (fv_i rfl (z0 (W0_0 (by omega) (by omega) (by omega)))) (lc (fv_r (b := 66) rfl) (lc (fv_r (b := 67) rfl) (lc (fv_r (b := 68) rfl) (lc (fv_r (b := 69) rfl) (lc (fv_r (b := 70) rfl) (lc (fv_r (b := 71) rfl) (lc (fv_i rfl (z0 (W0_0 (by omega) (by omega) (by omega)))) (lc (fv_r (b := 72) rfl) (lc (fv_i rfl (z1 (W0_1 (by omega) (by omega)))) (lc (fv_i rfl (zm (W0_m (by omega) (by omega)))) (lc (fv_r (b := 73) rfl) (lc (fv_i rfl (z0 (W0_0 (by omega) (by omega) (by omega)))) (lc (fv_r (b := 74) rfl) (lc (fv_i rfl (z0 (W0_0 (by omega) (by omega) (by omega)))) (lc (fv_r (b := 75) rfl) (lc (fv_r (b := 76) rfl) (lc (fv_r (b := 77) rfl) (lc (fv_r (b := 78) rfl) (lc (fv_r (b := 79) rfl) (lc (fv_i rfl (z0 (W0_0 (by omega) (by omega) (by omega)))) (lc (fv_i rfl (z0 (W0_0 (by omega) (by omega) (by omega)))) (lc (fv_r (b := 80) rfl) rfl))))))))))))))))))))))))))
  exact congrArg (fun l => (Sum.inr (8, l) : va_E)) h
theorem z_63 : cell φ cy (W0 sc N) 63 = .inl (cy 0, (8, .inl (upd (upd (upd (upd (upd (upd (upd (upd (fun _ => 0) 0 (-1)) 1 (-1)) 2 (-1)) 3 (-1)) 4 (-1)) 5 (-1)) 6 (-1)) 7 (-1)))) := by
  rw [cell_int (a := 63) rfl, zh]
  rfl
theorem z_64 : cell φ cy (W0 sc N) 64 = .inl (cy 0, (8, .inl (fun _ => 0))) := by
  rw [cell_int (a := 64) rfl, zz (a := 64) (by omega) (by intro j; omega) (by intro j; omega)]
  rfl
theorem z_65 : cell φ cy (W0 sc N) 65 = .inl (cy 1, (1280, .inr (.inl (fun _ => 0)))) := by
  rw [cell_long (a := 65) rfl]
  rfl
theorem z_66 : cell φ cy (W0 sc N) 66 = .inl (cy 0, (8, .inl (fun _ => 0))) := by
  rw [cell_int (a := 66) rfl, zz (a := 66) (by omega) (by intro j; omega) (by intro j; omega)]
  rfl
theorem z_67 : cell φ cy (W0 sc N) 67 = .inl (cy 0, (8, .inl (fun _ => 0))) := by
  rw [cell_int (a := 67) rfl, zz (a := 67) (by omega) (by intro j; omega) (by intro j; omega)]
  rfl
theorem z_68 : cell φ cy (W0 sc N) 68 = .inl (cy 0, (8, .inl (fun _ => 0))) := by
  rw [cell_int (a := 68) rfl, zz (a := 68) (by omega) (by intro j; omega) (by intro j; omega)]
  rfl
theorem z_69 : cell φ cy (W0 sc N) 69 = .inl (cy 0, (8, .inl (fun _ => 0))) := by
  rw [cell_int (a := 69) rfl, zz (a := 69) (by omega) (by intro j; omega) (by intro j; omega)]
  rfl
theorem z_70 : cell φ cy (W0 sc N) 70 = .inl (cy 0, (8, .inl (fun _ => 0))) := by
  rw [cell_int (a := 70) rfl, zz (a := 70) (by omega) (by intro j; omega) (by intro j; omega)]
  rfl
theorem z_71 : cell φ cy (W0 sc N) 71 = .inl (cy 0, (8, .inl (fun _ => 0))) := by
  rw [cell_int (a := 71) rfl, zz (a := 71) (by omega) (by intro j; omega) (by intro j; omega)]
  rfl
theorem z_72 : cell φ cy (W0 sc N) 72 = .inl (cy 0, (30, .inl (fun _ => 0))) := by
  rw [cell_int (a := 72) rfl, zz (a := 72) (by omega) (by intro j; omega) (by intro j; omega)]
  rfl
theorem z_73 : cell φ cy (W0 sc N) 73 = .inl (cy 0, (8, .inl (fun _ => 0))) := by
  rw [cell_int (a := 73) rfl, zz (a := 73) (by omega) (by intro j; omega) (by intro j; omega)]
  rfl
theorem z_74 : cell φ cy (W0 sc N) 74 = .inl (cy 0, (20, .inl (fun _ => 0))) := by
  rw [cell_int (a := 74) rfl, zz (a := 74) (by omega) (by intro j; omega) (by intro j; omega)]
  rfl
theorem z_75 : cell φ cy (W0 sc N) 75 = .inl (cy 0, (81, .inl (fun _ => 0))) := by
  rw [cell_int (a := 75) rfl, zz (a := 75) (by omega) (by intro j; omega) (by intro j; omega)]
  rfl
theorem z_76 : cell φ cy (W0 sc N) 76 = .inl (cy 0, (81, .inl (fun _ => 0))) := by
  rw [cell_int (a := 76) rfl, zz (a := 76) (by omega) (by intro j; omega) (by intro j; omega)]
  rfl
theorem z_77 : cell φ cy (W0 sc N) 77 = .inl (cy 0, (8, .inl (fun _ => 0))) := by
  rw [cell_int (a := 77) rfl, zz (a := 77) (by omega) (by intro j; omega) (by intro j; omega)]
  rfl
theorem z_78 : cell φ cy (W0 sc N) 78 = .inl (cy 0, (8, .inl (fun _ => 0))) := by
  rw [cell_int (a := 78) rfl, zz (a := 78) (by omega) (by intro j; omega) (by intro j; omega)]
  rfl
theorem z_79 : cell φ cy (W0 sc N) 79 = .inl (cy 0, (12, .inl (fun _ => 0))) := by
  rw [cell_int (a := 79) rfl, zz (a := 79) (by omega) (by intro j; omega) (by intro j; omega)]
  rfl
theorem z_80 : cell φ cy (W0 sc N) 80 = .inl (cy 0, (3, .inl (fun _ => 0))) := by
  rw [cell_int (a := 80) rfl, zz (a := 80) (by omega) (by intro j; omega) (by intro j; omega)]
  rfl
set_option maxRecDepth 20000 in
theorem z_list : ([(φ 0, cell φ cy (W0 sc N) 0), (φ 1, cell φ cy (W0 sc N) 1), (φ 2, cell φ cy (W0 sc N) 2), (φ 3, cell φ cy (W0 sc N) 3), (φ 4, cell φ cy (W0 sc N) 4), (φ 5, cell φ cy (W0 sc N) 5), (φ 6, cell φ cy (W0 sc N) 6), (φ 7, cell φ cy (W0 sc N) 7), (φ 8, cell φ cy (W0 sc N) 8), (φ 9, cell φ cy (W0 sc N) 9), (φ 10, cell φ cy (W0 sc N) 10), (φ 11, cell φ cy (W0 sc N) 11), (φ 12, cell φ cy (W0 sc N) 12), (φ 13, cell φ cy (W0 sc N) 13), (φ 14, cell φ cy (W0 sc N) 14), (φ 15, cell φ cy (W0 sc N) 15), (φ 16, cell φ cy (W0 sc N) 16), (φ 17, cell φ cy (W0 sc N) 17), (φ 18, cell φ cy (W0 sc N) 18), (φ 19, cell φ cy (W0 sc N) 19), (φ 20, cell φ cy (W0 sc N) 20), (φ 21, cell φ cy (W0 sc N) 21), (φ 22, cell φ cy (W0 sc N) 22), (φ 23, cell φ cy (W0 sc N) 23), (φ 24, cell φ cy (W0 sc N) 24), (φ 25, cell φ cy (W0 sc N) 25), (φ 26, cell φ cy (W0 sc N) 26), (φ 27, cell φ cy (W0 sc N) 27), (φ 28, cell φ cy (W0 sc N) 28), (φ 29, cell φ cy (W0 sc N) 29), (φ 30, cell φ cy (W0 sc N) 30), (φ 31, cell φ cy (W0 sc N) 31), (φ 32, cell φ cy (W0 sc N) 32), (φ 33, cell φ cy (W0 sc N) 33), (φ 34, cell φ cy (W0 sc N) 34), (φ 35, cell φ cy (W0 sc N) 35), (φ 36, cell φ cy (W0 sc N) 36), (φ 37, cell φ cy (W0 sc N) 37), (φ 38, cell φ cy (W0 sc N) 38), (φ 39, cell φ cy (W0 sc N) 39), (φ 40, cell φ cy (W0 sc N) 40), (φ 41, cell φ cy (W0 sc N) 41), (φ 42, cell φ cy (W0 sc N) 42), (φ 43, cell φ cy (W0 sc N) 43), (φ 44, cell φ cy (W0 sc N) 44), (φ 45, cell φ cy (W0 sc N) 45), (φ 46, cell φ cy (W0 sc N) 46), (φ 47, cell φ cy (W0 sc N) 47), (φ 48, cell φ cy (W0 sc N) 48), (φ 49, cell φ cy (W0 sc N) 49), (φ 50, cell φ cy (W0 sc N) 50), (φ 51, cell φ cy (W0 sc N) 51), (φ 52, cell φ cy (W0 sc N) 52), (φ 53, cell φ cy (W0 sc N) 53), (φ 54, cell φ cy (W0 sc N) 54), (φ 55, cell φ cy (W0 sc N) 55), (φ 56, cell φ cy (W0 sc N) 56), (φ 57, cell φ cy (W0 sc N) 57), (φ 58, cell φ cy (W0 sc N) 58), (φ 59, cell φ cy (W0 sc N) 59), (φ 60, cell φ cy (W0 sc N) 60), (φ 61, cell φ cy (W0 sc N) 61), (φ 62, cell φ cy (W0 sc N) 62), (φ 63, cell φ cy (W0 sc N) 63), (φ 64, cell φ cy (W0 sc N) 64), (φ 65, cell φ cy (W0 sc N) 65), (φ 66, cell φ cy (W0 sc N) 66), (φ 67, cell φ cy (W0 sc N) 67), (φ 68, cell φ cy (W0 sc N) 68), (φ 69, cell φ cy (W0 sc N) 69), (φ 70, cell φ cy (W0 sc N) 70), (φ 71, cell φ cy (W0 sc N) 71), (φ 72, cell φ cy (W0 sc N) 72), (φ 73, cell φ cy (W0 sc N) 73), (φ 74, cell φ cy (W0 sc N) 74), (φ 75, cell φ cy (W0 sc N) 75), (φ 76, cell φ cy (W0 sc N) 76), (φ 77, cell φ cy (W0 sc N) 77), (φ 78, cell φ cy (W0 sc N) 78), (φ 79, cell φ cy (W0 sc N) 79), (φ 80, cell φ cy (W0 sc N) 80)] : va_W) = [(φ 0, .inr (7, [.ref (φ 1), .ref (φ 12), .ref (φ 34), .ref (φ 51), .ref (φ 52), .ref (φ 53), .ref (φ 57), .ref (φ 60), .int 0, .int (-1)])),
    (φ 1, .inr (2, [.ref (φ 2), .int 0, .ref (φ 11), .int 0, .int (1)])),
    (φ 2, mrw cy (φ 3) (φ 4) (φ 5) (φ 6) (φ 7) (φ 8) (φ 9) (φ 10)),
    (φ 3, mn1),
    (φ 4, mn1),
    (φ 5, mn1),
    (φ 6, mn1),
    (φ 7, mn1),
    (φ 8, mn1),
    (φ 9, mn1),
    (φ 10, mn1),
    (φ 11, .inl (cy 0, (30, .inl (fun _ => 0)))),
    (φ 12, .inr (2, [.ref (φ 13), .int 0, .ref (φ 22), .int 0, .int (1)])),
    (φ 13, mrw cy (φ 14) (φ 15) (φ 16) (φ 17) (φ 18) (φ 19) (φ 20) (φ 21)),
    (φ 14, mn1),
    (φ 15, mn1),
    (φ 16, mn1),
    (φ 17, mn1),
    (φ 18, mn1),
    (φ 19, mn1),
    (φ 20, mn1),
    (φ 21, mn1),
    (φ 22, .inl (cy 0, (30, .inl (fun _ => 0)))),
    (φ 23, .inr (2, [.ref (φ 24), .int 0, .ref (φ 33), .int 0, .int (1)])),
    (φ 24, mrw cy (φ 25) (φ 26) (φ 27) (φ 28) (φ 29) (φ 30) (φ 31) (φ 32)),
    (φ 25, mn1),
    (φ 26, mn1),
    (φ 27, mn1),
    (φ 28, mn1),
    (φ 29, mn1),
    (φ 30, mn1),
    (φ 31, mn1),
    (φ 32, mn1),
    (φ 33, .inl (cy 0, (30, .inl (fun _ => 0)))),
    (φ 34, .inl (cy 3, (8, .inr (.inr (.inr (.inr (va_up (va_up (va_up (va_up (va_up (va_up (va_up (va_up (fun _ => none) 0 (some (φ 35))) 1 (some (φ 37))) 2 (some (φ 39))) 3 (some (φ 41))) 4 (some (φ 43))) 5 (some (φ 45))) 6 (some (φ 47))) 7 (some (φ 49))))))))),
    (φ 35, .inr (6, [.int (-1), .int 0, .ref (φ 36)])),
    (φ 36, .inl (cy 1, (160, .inr (.inl (fun _ => 0))))),
    (φ 37, .inr (6, [.int (-1), .int 0, .ref (φ 38)])),
    (φ 38, .inl (cy 1, (160, .inr (.inl (fun _ => 0))))),
    (φ 39, .inr (6, [.int (-1), .int 0, .ref (φ 40)])),
    (φ 40, .inl (cy 1, (160, .inr (.inl (fun _ => 0))))),
    (φ 41, .inr (6, [.int (-1), .int 0, .ref (φ 42)])),
    (φ 42, .inl (cy 1, (160, .inr (.inl (fun _ => 0))))),
    (φ 43, .inr (6, [.int (-1), .int 0, .ref (φ 44)])),
    (φ 44, .inl (cy 1, (160, .inr (.inl (fun _ => 0))))),
    (φ 45, .inr (6, [.int (-1), .int 0, .ref (φ 46)])),
    (φ 46, .inl (cy 1, (160, .inr (.inl (fun _ => 0))))),
    (φ 47, .inr (6, [.int (-1), .int 0, .ref (φ 48)])),
    (φ 48, .inl (cy 1, (160, .inr (.inl (fun _ => 0))))),
    (φ 49, .inr (6, [.int (-1), .int 0, .ref (φ 50)])),
    (φ 50, .inl (cy 1, (160, .inr (.inl (fun _ => 0))))),
    (φ 51, .inl (cy 0, (8, .inl (fun _ => 0)))),
    (φ 52, .inr (5, [.ref (φ 23), .int 0, .int 0, .int (-1)])),
    (φ 53, .inr (0, [.ref (φ 54), .ref (φ 55), .ref (φ 56), .int 0])),
    (φ 54, .inl (cy 0, (8, .inl (fun _ => 0)))),
    (φ 55, .inl (cy 0, (8, .inl (fun _ => 0)))),
    (φ 56, .inl (cy 0, (8, .inl (fun _ => 0)))),
    (φ 57, .inr (1, [.ref (φ 58), .ref (φ 59)])),
    (φ 58, .inl (cy 0, (30, .inl (fun _ => 0)))),
    (φ 59, .inl (cy 0, (8, .inl (fun _ => 0)))),
    (φ 60, .inr (4, [.ref (φ 61), .int 0, .int 0, .int 0, .int 0])),
    (φ 61, .inl (cy 0, (20, .inl (fun _ => 0)))),
    (φ 62, .inr (8, [.ref (φ 63), .ref (φ 64), .ref (φ 65), .int 0, .ref (φ 66), .ref (φ 67), .ref (φ 68), .ref (φ 69), .ref (φ 70), .ref (φ 71), .int 0, .ref (φ 72), .int (1), .int (-1), .ref (φ 73), .int 0, .ref (φ 74), .int 0, .ref (φ 75), .ref (φ 76), .ref (φ 77), .ref (φ 78), .ref (φ 79), .int 0, .int 0, .ref (φ 80)])),
    (φ 63, .inl (cy 0, (8, .inl (upd (upd (upd (upd (upd (upd (upd (upd (fun _ => 0) 0 (-1)) 1 (-1)) 2 (-1)) 3 (-1)) 4 (-1)) 5 (-1)) 6 (-1)) 7 (-1))))),
    (φ 64, .inl (cy 0, (8, .inl (fun _ => 0)))),
    (φ 65, .inl (cy 1, (1280, .inr (.inl (fun _ => 0))))),
    (φ 66, .inl (cy 0, (8, .inl (fun _ => 0)))),
    (φ 67, .inl (cy 0, (8, .inl (fun _ => 0)))),
    (φ 68, .inl (cy 0, (8, .inl (fun _ => 0)))),
    (φ 69, .inl (cy 0, (8, .inl (fun _ => 0)))),
    (φ 70, .inl (cy 0, (8, .inl (fun _ => 0)))),
    (φ 71, .inl (cy 0, (8, .inl (fun _ => 0)))),
    (φ 72, .inl (cy 0, (30, .inl (fun _ => 0)))),
    (φ 73, .inl (cy 0, (8, .inl (fun _ => 0)))),
    (φ 74, .inl (cy 0, (20, .inl (fun _ => 0)))),
    (φ 75, .inl (cy 0, (81, .inl (fun _ => 0)))),
    (φ 76, .inl (cy 0, (81, .inl (fun _ => 0)))),
    (φ 77, .inl (cy 0, (8, .inl (fun _ => 0)))),
    (φ 78, .inl (cy 0, (8, .inl (fun _ => 0)))),
    (φ 79, .inl (cy 0, (12, .inl (fun _ => 0)))),
    (φ 80, .inl (cy 0, (3, .inl (fun _ => 0))))] := (lc (congrArg (Prod.mk (φ 0)) z_0) (lc (congrArg (Prod.mk (φ 1)) z_1) (lc (congrArg (Prod.mk (φ 2)) z_2) (lc (congrArg (Prod.mk (φ 3)) z_3) (lc (congrArg (Prod.mk (φ 4)) z_4) (lc (congrArg (Prod.mk (φ 5)) z_5) (lc (congrArg (Prod.mk (φ 6)) z_6) (lc (congrArg (Prod.mk (φ 7)) z_7) (lc (congrArg (Prod.mk (φ 8)) z_8) (lc (congrArg (Prod.mk (φ 9)) z_9) (lc (congrArg (Prod.mk (φ 10)) z_10) (lc (congrArg (Prod.mk (φ 11)) z_11) (lc (congrArg (Prod.mk (φ 12)) z_12) (lc (congrArg (Prod.mk (φ 13)) z_13) (lc (congrArg (Prod.mk (φ 14)) z_14) (lc (congrArg (Prod.mk (φ 15)) z_15) (lc (congrArg (Prod.mk (φ 16)) z_16) (lc (congrArg (Prod.mk (φ 17)) z_17) (lc (congrArg (Prod.mk (φ 18)) z_18) (lc (congrArg (Prod.mk (φ 19)) z_19) (lc (congrArg (Prod.mk (φ 20)) z_20) (lc (congrArg (Prod.mk (φ 21)) z_21) (lc (congrArg (Prod.mk (φ 22)) z_22) (lc (congrArg (Prod.mk (φ 23)) z_23) (lc (congrArg (Prod.mk (φ 24)) z_24) (lc (congrArg (Prod.mk (φ 25)) z_25) (lc (congrArg (Prod.mk (φ 26)) z_26) (lc (congrArg (Prod.mk (φ 27)) z_27) (lc (congrArg (Prod.mk (φ 28)) z_28) (lc (congrArg (Prod.mk (φ 29)) z_29) (lc (congrArg (Prod.mk (φ 30)) z_30) (lc (congrArg (Prod.mk (φ 31)) z_31) (lc (congrArg (Prod.mk (φ 32)) z_32) (lc (congrArg (Prod.mk (φ 33)) z_33) (lc (congrArg (Prod.mk (φ 34)) z_34) (lc (congrArg (Prod.mk (φ 35)) z_35) (lc (congrArg (Prod.mk (φ 36)) z_36) (lc (congrArg (Prod.mk (φ 37)) z_37) (lc (congrArg (Prod.mk (φ 38)) z_38) (lc (congrArg (Prod.mk (φ 39)) z_39) (lc (congrArg (Prod.mk (φ 40)) z_40) (lc (congrArg (Prod.mk (φ 41)) z_41) (lc (congrArg (Prod.mk (φ 42)) z_42) (lc (congrArg (Prod.mk (φ 43)) z_43) (lc (congrArg (Prod.mk (φ 44)) z_44) (lc (congrArg (Prod.mk (φ 45)) z_45) (lc (congrArg (Prod.mk (φ 46)) z_46) (lc (congrArg (Prod.mk (φ 47)) z_47) (lc (congrArg (Prod.mk (φ 48)) z_48) (lc (congrArg (Prod.mk (φ 49)) z_49) (lc (congrArg (Prod.mk (φ 50)) z_50) (lc (congrArg (Prod.mk (φ 51)) z_51) (lc (congrArg (Prod.mk (φ 52)) z_52) (lc (congrArg (Prod.mk (φ 53)) z_53) (lc (congrArg (Prod.mk (φ 54)) z_54) (lc (congrArg (Prod.mk (φ 55)) z_55) (lc (congrArg (Prod.mk (φ 56)) z_56) (lc (congrArg (Prod.mk (φ 57)) z_57) (lc (congrArg (Prod.mk (φ 58)) z_58) (lc (congrArg (Prod.mk (φ 59)) z_59) (lc (congrArg (Prod.mk (φ 60)) z_60) (lc (congrArg (Prod.mk (φ 61)) z_61) (lc (congrArg (Prod.mk (φ 62)) z_62) (lc (congrArg (Prod.mk (φ 63)) z_63) (lc (congrArg (Prod.mk (φ 64)) z_64) (lc (congrArg (Prod.mk (φ 65)) z_65) (lc (congrArg (Prod.mk (φ 66)) z_66) (lc (congrArg (Prod.mk (φ 67)) z_67) (lc (congrArg (Prod.mk (φ 68)) z_68) (lc (congrArg (Prod.mk (φ 69)) z_69) (lc (congrArg (Prod.mk (φ 70)) z_70) (lc (congrArg (Prod.mk (φ 71)) z_71) (lc (congrArg (Prod.mk (φ 72)) z_72) (lc (congrArg (Prod.mk (φ 73)) z_73) (lc (congrArg (Prod.mk (φ 74)) z_74) (lc (congrArg (Prod.mk (φ 75)) z_75) (lc (congrArg (Prod.mk (φ 76)) z_76) (lc (congrArg (Prod.mk (φ 77)) z_77) (lc (congrArg (Prod.mk (φ 78)) z_78) (lc (congrArg (Prod.mk (φ 79)) z_79) (lc (congrArg (Prod.mk (φ 80)) z_80) rfl)))))))))))))))))))))))))))))))))))))))))))))))))))))))))))))))))))))))))))))))))
set_option maxRecDepth 20000 in
theorem z_all : wl φ cy (W0 sc N) = [(φ 0, .inr (7, [.ref (φ 1), .ref (φ 12), .ref (φ 34), .ref (φ 51), .ref (φ 52), .ref (φ 53), .ref (φ 57), .ref (φ 60), .int 0, .int (-1)])),
    (φ 1, .inr (2, [.ref (φ 2), .int 0, .ref (φ 11), .int 0, .int (1)])),
    (φ 2, mrw cy (φ 3) (φ 4) (φ 5) (φ 6) (φ 7) (φ 8) (φ 9) (φ 10)),
    (φ 3, mn1),
    (φ 4, mn1),
    (φ 5, mn1),
    (φ 6, mn1),
    (φ 7, mn1),
    (φ 8, mn1),
    (φ 9, mn1),
    (φ 10, mn1),
    (φ 11, .inl (cy 0, (30, .inl (fun _ => 0)))),
    (φ 12, .inr (2, [.ref (φ 13), .int 0, .ref (φ 22), .int 0, .int (1)])),
    (φ 13, mrw cy (φ 14) (φ 15) (φ 16) (φ 17) (φ 18) (φ 19) (φ 20) (φ 21)),
    (φ 14, mn1),
    (φ 15, mn1),
    (φ 16, mn1),
    (φ 17, mn1),
    (φ 18, mn1),
    (φ 19, mn1),
    (φ 20, mn1),
    (φ 21, mn1),
    (φ 22, .inl (cy 0, (30, .inl (fun _ => 0)))),
    (φ 23, .inr (2, [.ref (φ 24), .int 0, .ref (φ 33), .int 0, .int (1)])),
    (φ 24, mrw cy (φ 25) (φ 26) (φ 27) (φ 28) (φ 29) (φ 30) (φ 31) (φ 32)),
    (φ 25, mn1),
    (φ 26, mn1),
    (φ 27, mn1),
    (φ 28, mn1),
    (φ 29, mn1),
    (φ 30, mn1),
    (φ 31, mn1),
    (φ 32, mn1),
    (φ 33, .inl (cy 0, (30, .inl (fun _ => 0)))),
    (φ 34, .inl (cy 3, (8, .inr (.inr (.inr (.inr (va_up (va_up (va_up (va_up (va_up (va_up (va_up (va_up (fun _ => none) 0 (some (φ 35))) 1 (some (φ 37))) 2 (some (φ 39))) 3 (some (φ 41))) 4 (some (φ 43))) 5 (some (φ 45))) 6 (some (φ 47))) 7 (some (φ 49))))))))),
    (φ 35, .inr (6, [.int (-1), .int 0, .ref (φ 36)])),
    (φ 36, .inl (cy 1, (160, .inr (.inl (fun _ => 0))))),
    (φ 37, .inr (6, [.int (-1), .int 0, .ref (φ 38)])),
    (φ 38, .inl (cy 1, (160, .inr (.inl (fun _ => 0))))),
    (φ 39, .inr (6, [.int (-1), .int 0, .ref (φ 40)])),
    (φ 40, .inl (cy 1, (160, .inr (.inl (fun _ => 0))))),
    (φ 41, .inr (6, [.int (-1), .int 0, .ref (φ 42)])),
    (φ 42, .inl (cy 1, (160, .inr (.inl (fun _ => 0))))),
    (φ 43, .inr (6, [.int (-1), .int 0, .ref (φ 44)])),
    (φ 44, .inl (cy 1, (160, .inr (.inl (fun _ => 0))))),
    (φ 45, .inr (6, [.int (-1), .int 0, .ref (φ 46)])),
    (φ 46, .inl (cy 1, (160, .inr (.inl (fun _ => 0))))),
    (φ 47, .inr (6, [.int (-1), .int 0, .ref (φ 48)])),
    (φ 48, .inl (cy 1, (160, .inr (.inl (fun _ => 0))))),
    (φ 49, .inr (6, [.int (-1), .int 0, .ref (φ 50)])),
    (φ 50, .inl (cy 1, (160, .inr (.inl (fun _ => 0))))),
    (φ 51, .inl (cy 0, (8, .inl (fun _ => 0)))),
    (φ 52, .inr (5, [.ref (φ 23), .int 0, .int 0, .int (-1)])),
    (φ 53, .inr (0, [.ref (φ 54), .ref (φ 55), .ref (φ 56), .int 0])),
    (φ 54, .inl (cy 0, (8, .inl (fun _ => 0)))),
    (φ 55, .inl (cy 0, (8, .inl (fun _ => 0)))),
    (φ 56, .inl (cy 0, (8, .inl (fun _ => 0)))),
    (φ 57, .inr (1, [.ref (φ 58), .ref (φ 59)])),
    (φ 58, .inl (cy 0, (30, .inl (fun _ => 0)))),
    (φ 59, .inl (cy 0, (8, .inl (fun _ => 0)))),
    (φ 60, .inr (4, [.ref (φ 61), .int 0, .int 0, .int 0, .int 0])),
    (φ 61, .inl (cy 0, (20, .inl (fun _ => 0)))),
    (φ 62, .inr (8, [.ref (φ 63), .ref (φ 64), .ref (φ 65), .int 0, .ref (φ 66), .ref (φ 67), .ref (φ 68), .ref (φ 69), .ref (φ 70), .ref (φ 71), .int 0, .ref (φ 72), .int (1), .int (-1), .ref (φ 73), .int 0, .ref (φ 74), .int 0, .ref (φ 75), .ref (φ 76), .ref (φ 77), .ref (φ 78), .ref (φ 79), .int 0, .int 0, .ref (φ 80)])),
    (φ 63, .inl (cy 0, (8, .inl (upd (upd (upd (upd (upd (upd (upd (upd (fun _ => 0) 0 (-1)) 1 (-1)) 2 (-1)) 3 (-1)) 4 (-1)) 5 (-1)) 6 (-1)) 7 (-1))))),
    (φ 64, .inl (cy 0, (8, .inl (fun _ => 0)))),
    (φ 65, .inl (cy 1, (1280, .inr (.inl (fun _ => 0))))),
    (φ 66, .inl (cy 0, (8, .inl (fun _ => 0)))),
    (φ 67, .inl (cy 0, (8, .inl (fun _ => 0)))),
    (φ 68, .inl (cy 0, (8, .inl (fun _ => 0)))),
    (φ 69, .inl (cy 0, (8, .inl (fun _ => 0)))),
    (φ 70, .inl (cy 0, (8, .inl (fun _ => 0)))),
    (φ 71, .inl (cy 0, (8, .inl (fun _ => 0)))),
    (φ 72, .inl (cy 0, (30, .inl (fun _ => 0)))),
    (φ 73, .inl (cy 0, (8, .inl (fun _ => 0)))),
    (φ 74, .inl (cy 0, (20, .inl (fun _ => 0)))),
    (φ 75, .inl (cy 0, (81, .inl (fun _ => 0)))),
    (φ 76, .inl (cy 0, (81, .inl (fun _ => 0)))),
    (φ 77, .inl (cy 0, (8, .inl (fun _ => 0)))),
    (φ 78, .inl (cy 0, (8, .inl (fun _ => 0)))),
    (φ 79, .inl (cy 0, (12, .inl (fun _ => 0)))),
    (φ 80, .inl (cy 0, (3, .inl (fun _ => 0))))] := by
  show ([(φ 0, cell φ cy (W0 sc N) 0), (φ 1, cell φ cy (W0 sc N) 1), (φ 2, cell φ cy (W0 sc N) 2), (φ 3, cell φ cy (W0 sc N) 3), (φ 4, cell φ cy (W0 sc N) 4), (φ 5, cell φ cy (W0 sc N) 5), (φ 6, cell φ cy (W0 sc N) 6), (φ 7, cell φ cy (W0 sc N) 7), (φ 8, cell φ cy (W0 sc N) 8), (φ 9, cell φ cy (W0 sc N) 9), (φ 10, cell φ cy (W0 sc N) 10), (φ 11, cell φ cy (W0 sc N) 11), (φ 12, cell φ cy (W0 sc N) 12), (φ 13, cell φ cy (W0 sc N) 13), (φ 14, cell φ cy (W0 sc N) 14), (φ 15, cell φ cy (W0 sc N) 15), (φ 16, cell φ cy (W0 sc N) 16), (φ 17, cell φ cy (W0 sc N) 17), (φ 18, cell φ cy (W0 sc N) 18), (φ 19, cell φ cy (W0 sc N) 19), (φ 20, cell φ cy (W0 sc N) 20), (φ 21, cell φ cy (W0 sc N) 21), (φ 22, cell φ cy (W0 sc N) 22), (φ 23, cell φ cy (W0 sc N) 23), (φ 24, cell φ cy (W0 sc N) 24), (φ 25, cell φ cy (W0 sc N) 25), (φ 26, cell φ cy (W0 sc N) 26), (φ 27, cell φ cy (W0 sc N) 27), (φ 28, cell φ cy (W0 sc N) 28), (φ 29, cell φ cy (W0 sc N) 29), (φ 30, cell φ cy (W0 sc N) 30), (φ 31, cell φ cy (W0 sc N) 31), (φ 32, cell φ cy (W0 sc N) 32), (φ 33, cell φ cy (W0 sc N) 33), (φ 34, cell φ cy (W0 sc N) 34), (φ 35, cell φ cy (W0 sc N) 35), (φ 36, cell φ cy (W0 sc N) 36), (φ 37, cell φ cy (W0 sc N) 37), (φ 38, cell φ cy (W0 sc N) 38), (φ 39, cell φ cy (W0 sc N) 39), (φ 40, cell φ cy (W0 sc N) 40), (φ 41, cell φ cy (W0 sc N) 41), (φ 42, cell φ cy (W0 sc N) 42), (φ 43, cell φ cy (W0 sc N) 43), (φ 44, cell φ cy (W0 sc N) 44), (φ 45, cell φ cy (W0 sc N) 45), (φ 46, cell φ cy (W0 sc N) 46), (φ 47, cell φ cy (W0 sc N) 47), (φ 48, cell φ cy (W0 sc N) 48), (φ 49, cell φ cy (W0 sc N) 49), (φ 50, cell φ cy (W0 sc N) 50), (φ 51, cell φ cy (W0 sc N) 51), (φ 52, cell φ cy (W0 sc N) 52), (φ 53, cell φ cy (W0 sc N) 53), (φ 54, cell φ cy (W0 sc N) 54), (φ 55, cell φ cy (W0 sc N) 55), (φ 56, cell φ cy (W0 sc N) 56), (φ 57, cell φ cy (W0 sc N) 57), (φ 58, cell φ cy (W0 sc N) 58), (φ 59, cell φ cy (W0 sc N) 59), (φ 60, cell φ cy (W0 sc N) 60), (φ 61, cell φ cy (W0 sc N) 61), (φ 62, cell φ cy (W0 sc N) 62), (φ 63, cell φ cy (W0 sc N) 63), (φ 64, cell φ cy (W0 sc N) 64), (φ 65, cell φ cy (W0 sc N) 65), (φ 66, cell φ cy (W0 sc N) 66), (φ 67, cell φ cy (W0 sc N) 67), (φ 68, cell φ cy (W0 sc N) 68), (φ 69, cell φ cy (W0 sc N) 69), (φ 70, cell φ cy (W0 sc N) 70), (φ 71, cell φ cy (W0 sc N) 71), (φ 72, cell φ cy (W0 sc N) 72), (φ 73, cell φ cy (W0 sc N) 73), (φ 74, cell φ cy (W0 sc N) 74), (φ 75, cell φ cy (W0 sc N) 75), (φ 76, cell φ cy (W0 sc N) 76), (φ 77, cell φ cy (W0 sc N) 77), (φ 78, cell φ cy (W0 sc N) 78), (φ 79, cell φ cy (W0 sc N) 79), (φ 80, cell φ cy (W0 sc N) 80)] : va_W) = _
  exact z_list
end ZC
