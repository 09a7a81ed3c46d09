/-! the reference leaves the script alone -/
def Zw (sc : Nat → Int32) (N : Nat) (w : MW) : Prop := w.1 83 = sc ∧ w.2.2 = N
def KZ (sc : Nat → Int32) (N : Nat) (x : Option RT) : Prop := ∀ r w', x = some (r, w') → Zw sc N w'
theorem KZ.k1 {sc : Nat → Int32} {N : Nat} {x : Option RT} (h : KZ sc N x) : ∀ r w', x = some (r, w') → Zw sc N w' := h
theorem Zw.z1 {sc : Nat → Int32} {N : Nat} {w : MW} (h : Zw sc N w) : w.1 83 = sc := h.1
theorem Zw.z2 {sc : Nat → Int32} {N : Nat} {w : MW} (h : Zw sc N w) : w.2.2 = N := h.2
theorem KZ.none {sc : Nat → Int32} {N : Nat} : KZ sc N none := fun _ _ h => by cases h
theorem KZ.ret {sc : Nat → Int32} {N : Nat} {r : Option Value} {w : MW} (h : Zw sc N w) : KZ sc N (some (r, w)) := fun _ _ e => by cases e; exact h
theorem KZ.grd {sc : Nat → Int32} {N : Nat} {p : Prop} [Decidable p] {x : Option RT} (h : KZ sc N x) : KZ sc N (grd p x) := fun r w' e => h.k1 r w' (grd_e e).2
theorem KZ.ite {sc : Nat → Int32} {N : Nat} {p : Prop} [Decidable p] {x y : Option RT} (h : KZ sc N x) (h2 : KZ sc N y) : KZ sc N (if p then x else y) := by
  by_cases q : p
  · rw [if_pos q]; exact h
  · rw [if_neg q]; exact h2
theorem Zw.ite {sc : Nat → Int32} {N : Nat} {p : Prop} [Decidable p] {x y : MW} (h : Zw sc N x) (h2 : Zw sc N y) : Zw sc N (if p then x else y) := by
  by_cases q : p
  · rw [if_pos q]; exact h
  · rw [if_neg q]; exact h2
theorem KZ.bI {sc : Nat → Int32} {N : Nat} {x : Option RT} {k : Int32 → MW → Option RT} (h : KZ sc N x) (h2 : ∀ v w, Zw sc N w → KZ sc N (k v w)) : KZ sc N (bI x k) := fun r w' e => by
  obtain ⟨v, w, e1, e2⟩ := bI_e e
  exact (h2 v w (h.k1 _ _ e1)).k1 r w' e2
theorem KZ.bA {sc : Nat → Int32} {N : Nat} {x : Option RT} {k : Nat → MW → Option RT} (h : KZ sc N x) (h2 : ∀ v w, Zw sc N w → KZ sc N (k v w)) : KZ sc N (bA x k) := fun r w' e => by
  obtain ⟨v, w, e1, e2⟩ := bA_e e
  exact (h2 v w (h.k1 _ _ e1)).k1 r w' e2
theorem KZ.bJ {sc : Nat → Int32} {N : Nat} {x : Option RT} {k : Int64 → MW → Option RT} (h : KZ sc N x) (h2 : ∀ v w, Zw sc N w → KZ sc N (k v w)) : KZ sc N (bJ x k) := fun r w' e => by
  obtain ⟨v, w, e1, e2⟩ := bJ_e e
  exact (h2 v w (h.k1 _ _ e1)).k1 r w' e2
theorem KZ.bV {sc : Nat → Int32} {N : Nat} {x : Option RT} {k : MW → Option RT} (h : KZ sc N x) (h2 : ∀ w, Zw sc N w → KZ sc N (k w)) : KZ sc N (bV x k) := fun r w' e => by
  obtain ⟨w, e1, e2⟩ := bV_e e
  exact (h2 w (h.k1 _ _ e1)).k1 r w' e2
theorem Zw.setI {sc : Nat → Int32} {N : Nat} {w : MW} {a j : Nat} {v : Int32} (h : a ≠ 83) (z : Zw sc N w) : Zw sc N (setI w a j v) := ⟨by rw [rd_o (fun q => h q.symm)]; exact z.z1, z.z2⟩
theorem Zw.setL {sc : Nat → Int32} {N : Nat} {w : MW} {a j : Nat} {v : Int64} (z : Zw sc N w) : Zw sc N (setL w a j v) := ⟨z.z1, z.z2⟩
theorem z_f_JS_length {sc : Nat → Int32} {N : Nat} {w : MW} {a : Nat} (h : Zw sc N w) : KZ sc N (f_JS_length w a) := by
  unfold f_JS_length
  exact KZ.ret h
theorem z_f_JS_charAt {sc : Nat → Int32} {N : Nat} {w : MW} {a : Nat} {x : Int32} (h : Zw sc N w) : KZ sc N (f_JS_charAt w a x) := by
  unfold f_JS_charAt
  repeat' (first | with_reducible exact KZ.none | with_reducible apply KZ.ite | with_reducible apply KZ.grd | with_reducible apply KZ.ret | assumption)
theorem z_f_JI_bitCount {sc : Nat → Int32} {N : Nat} {w : MW} {x0 : Int32} (h : Zw sc N w) : KZ sc N (f_JI_bitCount w x0) := by
  unfold f_JI_bitCount
  repeat' (first | with_reducible exact KZ.none | with_reducible apply KZ.ite | with_reducible apply KZ.grd | with_reducible apply KZ.bI | with_reducible apply KZ.bA | with_reducible apply KZ.bV | with_reducible apply KZ.bJ | with_reducible apply KZ.ret | with_reducible apply Zw.ite | with_reducible apply Zw.setI | with_reducible apply Zw.setL | assumption | decide | intro _)
theorem z_u_M_no {sc : Nat → Int32} {N : Nat} {w : MW} {x1 : Int32} (h : Zw sc N w) : Zw sc N (u_M_no w x1) := by
  unfold u_M_no
  repeat' (first | with_reducible exact KZ.none | with_reducible apply KZ.ite | with_reducible apply KZ.grd | with_reducible apply KZ.bI | with_reducible apply KZ.bA | with_reducible apply KZ.bV | with_reducible apply KZ.bJ | with_reducible apply KZ.ret | with_reducible apply Zw.ite | with_reducible apply Zw.setI | with_reducible apply Zw.setL | assumption | decide | intro _)
theorem z_u_M_no10 {sc : Nat → Int32} {N : Nat} {w : MW} {x1 : Int32} (h : Zw sc N w) : Zw sc N (u_M_no10 w x1) := by
  unfold u_M_no10
  repeat' (first | with_reducible exact KZ.none | with_reducible apply KZ.ite | with_reducible apply KZ.grd | with_reducible apply KZ.bI | with_reducible apply KZ.bA | with_reducible apply KZ.bV | with_reducible apply KZ.bJ | with_reducible apply KZ.ret | with_reducible apply Zw.ite | with_reducible apply Zw.setI | with_reducible apply Zw.setL | with_reducible apply z_u_M_no | assumption | decide | intro _)
theorem z_u_M_meeting {sc : Nat → Int32} {N : Nat} {w : MW} {x1 : Int32} {x2 : Int32} {x3 : Int32} (h : Zw sc N w) : Zw sc N (u_M_meeting w x1 x2 x3) := by
  unfold u_M_meeting
  repeat' (first | with_reducible exact KZ.none | with_reducible apply KZ.ite | with_reducible apply KZ.grd | with_reducible apply KZ.bI | with_reducible apply KZ.bA | with_reducible apply KZ.bV | with_reducible apply KZ.bJ | with_reducible apply KZ.ret | with_reducible apply Zw.ite | with_reducible apply Zw.setI | with_reducible apply Zw.setL | assumption | decide | intro _)
theorem z_u_M_is {sc : Nat → Int32} {N : Nat} {w : MW} {x1 : Int32} (h : Zw sc N w) : Zw sc N (u_M_is w x1) := by
  unfold u_M_is
  repeat' (first | with_reducible exact KZ.none | with_reducible apply KZ.ite | with_reducible apply KZ.grd | with_reducible apply KZ.bI | with_reducible apply KZ.bA | with_reducible apply KZ.bV | with_reducible apply KZ.bJ | with_reducible apply KZ.ret | with_reducible apply Zw.ite | with_reducible apply Zw.setI | with_reducible apply Zw.setL | assumption | decide | intro _)
theorem z_u_M_draw {sc : Nat → Int32} {N : Nat} {w : MW} {x1 : Int32} (h : Zw sc N w) : Zw sc N (u_M_draw w x1) := by
  unfold u_M_draw
  repeat' (first | with_reducible exact KZ.none | with_reducible apply KZ.ite | with_reducible apply KZ.grd | with_reducible apply KZ.bI | with_reducible apply KZ.bA | with_reducible apply KZ.bV | with_reducible apply KZ.bJ | with_reducible apply KZ.ret | with_reducible apply Zw.ite | with_reducible apply Zw.setI | with_reducible apply Zw.setL | assumption | decide | intro _)
theorem z_u_M_ran {sc : Nat → Int32} {N : Nat} {w : MW} {x1 : Int32} (h : Zw sc N w) : Zw sc N (u_M_ran w x1) := by
  unfold u_M_ran
  repeat' (first | with_reducible exact KZ.none | with_reducible apply KZ.ite | with_reducible apply KZ.grd | with_reducible apply KZ.bI | with_reducible apply KZ.bA | with_reducible apply KZ.bV | with_reducible apply KZ.bJ | with_reducible apply KZ.ret | with_reducible apply Zw.ite | with_reducible apply Zw.setI | with_reducible apply Zw.setL | assumption | decide | intro _)
theorem z_u_M_change {sc : Nat → Int32} {N : Nat} {w : MW} {x1 : Int32} {x2 : Int32} (h : Zw sc N w) : Zw sc N (u_M_change w x1 x2) := by
  unfold u_M_change
  repeat' (first | with_reducible exact KZ.none | with_reducible apply KZ.ite | with_reducible apply KZ.grd | with_reducible apply KZ.bI | with_reducible apply KZ.bA | with_reducible apply KZ.bV | with_reducible apply KZ.bJ | with_reducible apply KZ.ret | with_reducible apply Zw.ite | with_reducible apply Zw.setI | with_reducible apply Zw.setL | assumption | decide | intro _)
theorem z_u_M_speaks {sc : Nat → Int32} {N : Nat} {w : MW} {x1 : Int32} {x2 : Int32} (h : Zw sc N w) : Zw sc N (u_M_speaks w x1 x2) := by
  unfold u_M_speaks
  repeat' (first | with_reducible exact KZ.none | with_reducible apply KZ.ite | with_reducible apply KZ.grd | with_reducible apply KZ.bI | with_reducible apply KZ.bA | with_reducible apply KZ.bV | with_reducible apply KZ.bJ | with_reducible apply KZ.ret | with_reducible apply Zw.ite | with_reducible apply Zw.setI | with_reducible apply Zw.setL | assumption | decide | intro _)
theorem z_f_M_row_77 {sc : Nat → Int32} {N : Nat} : ∀ (n : Nat) (w : MW) (x0 : Int32) (x1 : Int32), Zw sc N w → KZ sc N (f_M_row_77  n w x0 x1) := by
  intro n
  induction n with
  | zero => intros; unfold f_M_row_77; exact KZ.none
  | succ n ih =>
    intro w x0 x1 h
    unfold f_M_row_77
    repeat' (first | with_reducible exact KZ.none | with_reducible apply KZ.ite | with_reducible apply KZ.grd | with_reducible apply KZ.bI | with_reducible apply KZ.bA | with_reducible apply KZ.bV | with_reducible apply KZ.bJ | with_reducible apply KZ.ret | with_reducible apply Zw.ite | with_reducible apply Zw.setI | with_reducible apply Zw.setL | with_reducible apply ih | assumption | decide | intro _)
theorem z_f_M_row {sc : Nat → Int32} {N : Nat} {w : MW} {x1 : Int32} {x2 : Int32} {x3 : Int32} (h : Zw sc N w) : KZ sc N (f_M_row w x1 x2 x3) := by
  unfold f_M_row
  repeat' (first | with_reducible exact KZ.none | with_reducible apply KZ.ite | with_reducible apply KZ.grd | with_reducible apply KZ.bI | with_reducible apply KZ.bA | with_reducible apply KZ.bV | with_reducible apply KZ.bJ | with_reducible apply KZ.ret | with_reducible apply Zw.ite | with_reducible apply Zw.setI | with_reducible apply Zw.setL | with_reducible apply z_u_M_no | with_reducible apply z_f_M_row_77 | assumption | decide | intro _)
theorem z_f_M_set {sc : Nat → Int32} {N : Nat} {w : MW} {x1 : Int32} {x2 : Int32} {z3 : Int64} (h : Zw sc N w) : KZ sc N (f_M_set w x1 x2 z3) := by
  unfold f_M_set
  repeat' (first | with_reducible exact KZ.none | with_reducible apply KZ.ite | with_reducible apply KZ.grd | with_reducible apply KZ.bI | with_reducible apply KZ.bA | with_reducible apply KZ.bV | with_reducible apply KZ.bJ | with_reducible apply KZ.ret | with_reducible apply Zw.ite | with_reducible apply Zw.setI | with_reducible apply Zw.setL | with_reducible apply z_u_M_no | assumption | decide | intro _)
theorem z_f_M_copy_251 {sc : Nat → Int32} {N : Nat} : ∀ (n : Nat) (w : MW) (x0 : Int32) (x1 : Int32) (x2 : Int32) (x3 : Int32) (x4 : Int32) (x5 : Int32), Zw sc N w → KZ sc N (f_M_copy_251  n w x0 x1 x2 x3 x4 x5) := by
  intro n
  induction n with
  | zero => intros; unfold f_M_copy_251; exact KZ.none
  | succ n ih =>
    intro w x0 x1 x2 x3 x4 x5 h
    unfold f_M_copy_251
    repeat' (first | with_reducible exact KZ.none | with_reducible apply KZ.ite | with_reducible apply KZ.grd | with_reducible apply KZ.bI | with_reducible apply KZ.bA | with_reducible apply KZ.bV | with_reducible apply KZ.bJ | with_reducible apply KZ.ret | with_reducible apply Zw.ite | with_reducible apply Zw.setI | with_reducible apply Zw.setL | with_reducible apply ih | assumption | decide | intro _)
theorem z_f_M_copy_203 {sc : Nat → Int32} {N : Nat} : ∀ (n : Nat) (w : MW) (x0 : Int32) (x1 : Int32) (x2 : Int32) (x3 : Int32) (x4 : Int32), Zw sc N w → KZ sc N (f_M_copy_203  n w x0 x1 x2 x3 x4) := by
  intro n
  induction n with
  | zero => intros; unfold f_M_copy_203; exact KZ.none
  | succ n ih =>
    intro w x0 x1 x2 x3 x4 h
    unfold f_M_copy_203
    repeat' (first | with_reducible exact KZ.none | with_reducible apply KZ.ite | with_reducible apply KZ.grd | with_reducible apply KZ.bI | with_reducible apply KZ.bA | with_reducible apply KZ.bV | with_reducible apply KZ.bJ | with_reducible apply KZ.ret | with_reducible apply Zw.ite | with_reducible apply Zw.setI | with_reducible apply Zw.setL | with_reducible apply ih | assumption | decide | intro _)
theorem z_f_M_copy {sc : Nat → Int32} {N : Nat} {w : MW} {x1 : Int32} {x2 : Int32} {x3 : Int32} {x4 : Int32} {x5 : Int32} (h : Zw sc N w) : KZ sc N (f_M_copy w x1 x2 x3 x4 x5) := by
  unfold f_M_copy
  repeat' (first | with_reducible exact KZ.none | with_reducible apply KZ.ite | with_reducible apply KZ.grd | with_reducible apply KZ.bI | with_reducible apply KZ.bA | with_reducible apply KZ.bV | with_reducible apply KZ.bJ | with_reducible apply KZ.ret | with_reducible apply Zw.ite | with_reducible apply Zw.setI | with_reducible apply Zw.setL | with_reducible apply z_u_M_no | with_reducible apply z_f_M_copy_251 | with_reducible apply z_f_M_copy_203 | assumption | decide | intro _)
theorem z_f_M_element {sc : Nat → Int32} {N : Nat} {w : MW} {x1 : Int32} {x2 : Int32} (h : Zw sc N w) : KZ sc N (f_M_element w x1 x2) := by
  unfold f_M_element
  repeat' (first | with_reducible exact KZ.none | with_reducible apply KZ.ite | with_reducible apply KZ.grd | with_reducible apply KZ.bI | with_reducible apply KZ.bA | with_reducible apply KZ.bV | with_reducible apply KZ.bJ | with_reducible apply KZ.ret | with_reducible apply Zw.ite | with_reducible apply Zw.setI | with_reducible apply Zw.setL | assumption | decide | intro _)
theorem z_f_M_show {sc : Nat → Int32} {N : Nat} {w : MW} {x1 : Int32} {x2 : Int32} (h : Zw sc N w) : KZ sc N (f_M_show w x1 x2) := by
  unfold f_M_show
  repeat' (first | with_reducible exact KZ.none | with_reducible apply KZ.ite | with_reducible apply KZ.grd | with_reducible apply KZ.bI | with_reducible apply KZ.bA | with_reducible apply KZ.bV | with_reducible apply KZ.bJ | with_reducible apply KZ.ret | with_reducible apply Zw.ite | with_reducible apply Zw.setI | with_reducible apply Zw.setL | with_reducible apply z_u_M_no | assumption | decide | intro _)
theorem z_f_M_holds {sc : Nat → Int32} {N : Nat} {w : MW} {x1 : Int32} (h : Zw sc N w) : KZ sc N (f_M_holds w x1) := by
  unfold f_M_holds
  repeat' (first | with_reducible exact KZ.none | with_reducible apply KZ.ite | with_reducible apply KZ.grd | with_reducible apply KZ.bI | with_reducible apply KZ.bA | with_reducible apply KZ.bV | with_reducible apply KZ.bJ | with_reducible apply KZ.ret | with_reducible apply Zw.ite | with_reducible apply Zw.setI | with_reducible apply Zw.setL | assumption | decide | intro _)
theorem z_f_M_isUnder_2 {sc : Nat → Int32} {N : Nat} : ∀ (n : Nat) (w : MW) (x0 : Int32) (x1 : Int32), Zw sc N w → KZ sc N (f_M_isUnder_2  n w x0 x1) := by
  intro n
  induction n with
  | zero => intros; unfold f_M_isUnder_2; exact KZ.none
  | succ n ih =>
    intro w x0 x1 h
    unfold f_M_isUnder_2
    repeat' (first | with_reducible exact KZ.none | with_reducible apply KZ.ite | with_reducible apply KZ.grd | with_reducible apply KZ.bI | with_reducible apply KZ.bA | with_reducible apply KZ.bV | with_reducible apply KZ.bJ | with_reducible apply KZ.ret | with_reducible apply Zw.ite | with_reducible apply Zw.setI | with_reducible apply Zw.setL | with_reducible apply ih | assumption | decide | intro _)
theorem z_f_M_isUnder {sc : Nat → Int32} {N : Nat} {w : MW} {x0 : Int32} {x1 : Int32} (h : Zw sc N w) : KZ sc N (f_M_isUnder w x0 x1) := by
  unfold f_M_isUnder
  repeat' (first | with_reducible exact KZ.none | with_reducible apply KZ.ite | with_reducible apply KZ.grd | with_reducible apply KZ.bI | with_reducible apply KZ.bA | with_reducible apply KZ.bV | with_reducible apply KZ.bJ | with_reducible apply KZ.ret | with_reducible apply Zw.ite | with_reducible apply Zw.setI | with_reducible apply Zw.setL | with_reducible apply z_f_M_isUnder_2 | assumption | decide | intro _)
theorem z_f_M_his_12 {sc : Nat → Int32} {N : Nat} : ∀ (n : Nat) (w : MW) (x0 : Int32) (x1 : Int32) (x2 : Int32) (x3 : Int32) (x4 : Int32) (x5 : Int32) (x6 : Int32), Zw sc N w → KZ sc N (f_M_his_12  n w x0 x1 x2 x3 x4 x5 x6) := by
  intro n
  induction n with
  | zero => intros; unfold f_M_his_12; exact KZ.none
  | succ n ih =>
    intro w x0 x1 x2 x3 x4 x5 x6 h
    unfold f_M_his_12
    repeat' (first | with_reducible exact KZ.none | with_reducible apply KZ.ite | with_reducible apply KZ.grd | with_reducible apply KZ.bI | with_reducible apply KZ.bA | with_reducible apply KZ.bV | with_reducible apply KZ.bJ | with_reducible apply KZ.ret | with_reducible apply Zw.ite | with_reducible apply Zw.setI | with_reducible apply Zw.setL | with_reducible apply ih | assumption | decide | intro _)
theorem z_f_M_his {sc : Nat → Int32} {N : Nat} {w : MW} {x1 : Int32} {x2 : Int32} {x3 : Int32} (h : Zw sc N w) : KZ sc N (f_M_his w x1 x2 x3) := by
  unfold f_M_his
  repeat' (first | with_reducible exact KZ.none | with_reducible apply KZ.ite | with_reducible apply KZ.grd | with_reducible apply KZ.bI | with_reducible apply KZ.bA | with_reducible apply KZ.bV | with_reducible apply KZ.bJ | with_reducible apply KZ.ret | with_reducible apply Zw.ite | with_reducible apply Zw.setI | with_reducible apply Zw.setL | with_reducible apply z_f_M_his_12 | assumption | decide | intro _)
theorem z_f_M_newMan_63 {sc : Nat → Int32} {N : Nat} : ∀ (n : Nat) (w : MW) (x0 : Int32), Zw sc N w → KZ sc N (f_M_newMan_63  n w x0) := by
  intro n
  induction n with
  | zero => intros; unfold f_M_newMan_63; exact KZ.none
  | succ n ih =>
    intro w x0 h
    unfold f_M_newMan_63
    repeat' (first | with_reducible exact KZ.none | with_reducible apply KZ.ite | with_reducible apply KZ.grd | with_reducible apply KZ.bI | with_reducible apply KZ.bA | with_reducible apply KZ.bV | with_reducible apply KZ.bJ | with_reducible apply KZ.ret | with_reducible apply Zw.ite | with_reducible apply Zw.setI | with_reducible apply Zw.setL | with_reducible apply ih | assumption | decide | intro _)
theorem z_f_M_newMan {sc : Nat → Int32} {N : Nat} {w : MW} {x1 : Int32} {x2 : Int32} {x3 : Int32} (h : Zw sc N w) : KZ sc N (f_M_newMan w x1 x2 x3) := by
  unfold f_M_newMan
  repeat' (first | with_reducible exact KZ.none | with_reducible apply KZ.ite | with_reducible apply KZ.grd | with_reducible apply KZ.bI | with_reducible apply KZ.bA | with_reducible apply KZ.bV | with_reducible apply KZ.bJ | with_reducible apply KZ.ret | with_reducible apply Zw.ite | with_reducible apply Zw.setI | with_reducible apply Zw.setL | with_reducible apply z_f_M_newMan_63 | assumption | decide | intro _)
theorem z_f_M_meet {sc : Nat → Int32} {N : Nat} {w : MW} {x1 : Int32} {x2 : Int32} {x3 : Int32} (h : Zw sc N w) : KZ sc N (f_M_meet w x1 x2 x3) := by
  unfold f_M_meet
  repeat' (first | with_reducible exact KZ.none | with_reducible apply KZ.ite | with_reducible apply KZ.grd | with_reducible apply KZ.bI | with_reducible apply KZ.bA | with_reducible apply KZ.bV | with_reducible apply KZ.bJ | with_reducible apply KZ.ret | with_reducible apply Zw.ite | with_reducible apply Zw.setI | with_reducible apply Zw.setL | with_reducible apply z_u_M_no | with_reducible apply z_u_M_meeting | assumption | decide | intro _)
theorem z_f_M_wrong_2 {sc : Nat → Int32} {N : Nat} : ∀ (n : Nat) (w : MW) (x0 : Int32) (x1 : Int32) (x2 : Int32), Zw sc N w → KZ sc N (f_M_wrong_2  n w x0 x1 x2) := by
  intro n
  induction n with
  | zero => intros; unfold f_M_wrong_2; exact KZ.none
  | succ n ih =>
    intro w x0 x1 x2 h
    unfold f_M_wrong_2
    repeat' (first | with_reducible exact KZ.none | with_reducible apply KZ.ite | with_reducible apply KZ.grd | with_reducible apply KZ.bI | with_reducible apply KZ.bA | with_reducible apply KZ.bV | with_reducible apply KZ.bJ | with_reducible apply KZ.ret | with_reducible apply Zw.ite | with_reducible apply Zw.setI | with_reducible apply Zw.setL | with_reducible apply ih | assumption | decide | intro _)
theorem z_f_M_wrong {sc : Nat → Int32} {N : Nat} {w : MW} {x1 : Int32} {x2 : Int32} (h : Zw sc N w) : KZ sc N (f_M_wrong w x1 x2) := by
  unfold f_M_wrong
  repeat' (first | with_reducible exact KZ.none | with_reducible apply KZ.ite | with_reducible apply KZ.grd | with_reducible apply KZ.bI | with_reducible apply KZ.bA | with_reducible apply KZ.bV | with_reducible apply KZ.bJ | with_reducible apply KZ.ret | with_reducible apply Zw.ite | with_reducible apply Zw.setI | with_reducible apply Zw.setL | with_reducible apply z_f_M_wrong_2 | assumption | decide | intro _)
theorem z_f_M_word {sc : Nat → Int32} {N : Nat} {w : MW} {x1 : Int32} (h : Zw sc N w) : KZ sc N (f_M_word w x1) := by
  unfold f_M_word
  repeat' (first | with_reducible exact KZ.none | with_reducible apply KZ.ite | with_reducible apply KZ.grd | with_reducible apply KZ.bI | with_reducible apply KZ.bA | with_reducible apply KZ.bV | with_reducible apply KZ.bJ | with_reducible apply KZ.ret | with_reducible apply Zw.ite | with_reducible apply Zw.setI | with_reducible apply Zw.setL | with_reducible apply z_u_M_no | assumption | decide | intro _)
theorem z_f_M_keep_85 {sc : Nat → Int32} {N : Nat} {a1 : Nat} (h_a1 : a1 ≠ 83) : ∀ (n : Nat) (w : MW) (x0 : Int32), Zw sc N w → KZ sc N (f_M_keep_85 a1 n w x0) := by
  intro n
  induction n with
  | zero => intros; unfold f_M_keep_85; exact KZ.none
  | succ n ih =>
    intro w x0 h
    unfold f_M_keep_85
    repeat' (first | with_reducible exact KZ.none | with_reducible apply KZ.ite | with_reducible apply KZ.grd | with_reducible apply KZ.bI | with_reducible apply KZ.bA | with_reducible apply KZ.bV | with_reducible apply KZ.bJ | with_reducible apply KZ.ret | with_reducible apply Zw.ite | with_reducible apply Zw.setI | with_reducible apply Zw.setL | with_reducible apply ih | assumption | decide | intro _)
theorem z_f_M_keep_2 {sc : Nat → Int32} {N : Nat} {a1 : Nat} (h_a1 : a1 ≠ 83) : ∀ (n : Nat) (w : MW) (x0 : Int32), Zw sc N w → KZ sc N (f_M_keep_2 a1 n w x0) := by
  intro n
  induction n with
  | zero => intros; unfold f_M_keep_2; exact KZ.none
  | succ n ih =>
    intro w x0 h
    unfold f_M_keep_2
    repeat' (first | with_reducible exact KZ.none | with_reducible apply KZ.ite | with_reducible apply KZ.grd | with_reducible apply KZ.bI | with_reducible apply KZ.bA | with_reducible apply KZ.bV | with_reducible apply KZ.bJ | with_reducible apply KZ.ret | with_reducible apply Zw.ite | with_reducible apply Zw.setI | with_reducible apply Zw.setL | with_reducible apply ih | with_reducible apply z_f_M_keep_85 | assumption | decide | intro _)
theorem z_f_M_keep {sc : Nat → Int32} {N : Nat} {w : MW} {a1 : Nat} (h_a1 : a1 ≠ 83) (h : Zw sc N w) : KZ sc N (f_M_keep w a1) := by
  unfold f_M_keep
  repeat' (first | with_reducible exact KZ.none | with_reducible apply KZ.ite | with_reducible apply KZ.grd | with_reducible apply KZ.bI | with_reducible apply KZ.bA | with_reducible apply KZ.bV | with_reducible apply KZ.bJ | with_reducible apply KZ.ret | with_reducible apply Zw.ite | with_reducible apply Zw.setI | with_reducible apply Zw.setL | with_reducible apply z_f_M_keep_2 | assumption | decide | intro _)
theorem z_f_M_word_2_2 {sc : Nat → Int32} {N : Nat} {a1 : Nat} : ∀ (n : Nat) (w : MW) (x0 : Int32), Zw sc N w → KZ sc N (f_M_word_2_2 a1 n w x0) := by
  intro n
  induction n with
  | zero => intros; unfold f_M_word_2_2; exact KZ.none
  | succ n ih =>
    intro w x0 h
    unfold f_M_word_2_2
    repeat' (first | with_reducible exact KZ.none | with_reducible apply KZ.ite | with_reducible apply KZ.grd | with_reducible apply KZ.bI | with_reducible apply KZ.bA | with_reducible apply KZ.bV | with_reducible apply KZ.bJ | with_reducible apply KZ.ret | with_reducible apply Zw.ite | with_reducible apply Zw.setI | with_reducible apply Zw.setL | with_reducible apply ih | with_reducible apply z_f_JS_length | with_reducible apply z_f_JS_charAt | with_reducible apply z_u_M_is | assumption | decide | intro _)
theorem z_f_M_word_2 {sc : Nat → Int32} {N : Nat} {w : MW} {a1 : Nat} (h : Zw sc N w) : KZ sc N (f_M_word_2 w a1) := by
  unfold f_M_word_2
  repeat' (first | with_reducible exact KZ.none | with_reducible apply KZ.ite | with_reducible apply KZ.grd | with_reducible apply KZ.bI | with_reducible apply KZ.bA | with_reducible apply KZ.bV | with_reducible apply KZ.bJ | with_reducible apply KZ.ret | with_reducible apply Zw.ite | with_reducible apply Zw.setI | with_reducible apply Zw.setL | with_reducible apply z_f_M_word_2_2 | assumption | decide | intro _)
theorem z_f_M_number_20 {sc : Nat → Int32} {N : Nat} : ∀ (n : Nat) (w : MW) (x0 : Int32) (x1 : Int32) (x2 : Int32) (x3 : Int32) (x4 : Int32), Zw sc N w → KZ sc N (f_M_number_20  n w x0 x1 x2 x3 x4) := by
  intro n
  induction n with
  | zero => intros; unfold f_M_number_20; exact KZ.none
  | succ n ih =>
    intro w x0 x1 x2 x3 x4 h
    unfold f_M_number_20
    repeat' (first | with_reducible exact KZ.none | with_reducible apply KZ.ite | with_reducible apply KZ.grd | with_reducible apply KZ.bI | with_reducible apply KZ.bA | with_reducible apply KZ.bV | with_reducible apply KZ.bJ | with_reducible apply KZ.ret | with_reducible apply Zw.ite | with_reducible apply Zw.setI | with_reducible apply Zw.setL | with_reducible apply ih | assumption | decide | intro _)
theorem z_f_M_number {sc : Nat → Int32} {N : Nat} {w : MW} {x1 : Int32} {x2 : Int32} {x3 : Int32} (h : Zw sc N w) : KZ sc N (f_M_number w x1 x2 x3) := by
  unfold f_M_number
  repeat' (first | with_reducible exact KZ.none | with_reducible apply KZ.ite | with_reducible apply KZ.grd | with_reducible apply KZ.bI | with_reducible apply KZ.bA | with_reducible apply KZ.bV | with_reducible apply KZ.bJ | with_reducible apply KZ.ret | with_reducible apply Zw.ite | with_reducible apply Zw.setI | with_reducible apply Zw.setL | with_reducible apply z_u_M_is | with_reducible apply z_f_M_number_20 | assumption | decide | intro _)
theorem z_f_M_stands {sc : Nat → Int32} {N : Nat} {w : MW} {x1 : Int32} {x2 : Int32} (h : Zw sc N w) : KZ sc N (f_M_stands w x1 x2) := by
  unfold f_M_stands
  repeat' (first | with_reducible exact KZ.none | with_reducible apply KZ.ite | with_reducible apply KZ.grd | with_reducible apply KZ.bI | with_reducible apply KZ.bA | with_reducible apply KZ.bV | with_reducible apply KZ.bJ | with_reducible apply KZ.ret | with_reducible apply Zw.ite | with_reducible apply Zw.setI | with_reducible apply Zw.setL | assumption | decide | intro _)
theorem z_f_M_word_3 {sc : Nat → Int32} {N : Nat} {w : MW} {a1 : Nat} {x2 : Int32} (h : Zw sc N w) : KZ sc N (f_M_word_3 w a1 x2) := by
  unfold f_M_word_3
  repeat' (first | with_reducible exact KZ.none | with_reducible apply KZ.ite | with_reducible apply KZ.grd | with_reducible apply KZ.bI | with_reducible apply KZ.bA | with_reducible apply KZ.bV | with_reducible apply KZ.bJ | with_reducible apply KZ.ret | with_reducible apply Zw.ite | with_reducible apply Zw.setI | with_reducible apply Zw.setL | with_reducible apply z_f_M_word_2 | assumption | decide | intro _)
theorem z_f_M_again_85 {sc : Nat → Int32} {N : Nat} {a1 : Nat} : ∀ (n : Nat) (w : MW) (x0 : Int32), Zw sc N w → KZ sc N (f_M_again_85 a1 n w x0) := by
  intro n
  induction n with
  | zero => intros; unfold f_M_again_85; exact KZ.none
  | succ n ih =>
    intro w x0 h
    unfold f_M_again_85
    repeat' (first | with_reducible exact KZ.none | with_reducible apply KZ.ite | with_reducible apply KZ.grd | with_reducible apply KZ.bI | with_reducible apply KZ.bA | with_reducible apply KZ.bV | with_reducible apply KZ.bJ | with_reducible apply KZ.ret | with_reducible apply Zw.ite | with_reducible apply Zw.setI | with_reducible apply Zw.setL | with_reducible apply ih | assumption | decide | intro _)
theorem z_f_M_again_2 {sc : Nat → Int32} {N : Nat} {a1 : Nat} (h_a1 : a1 ≠ 83) : ∀ (n : Nat) (w : MW) (x0 : Int32), Zw sc N w → KZ sc N (f_M_again_2 a1 n w x0) := by
  intro n
  induction n with
  | zero => intros; unfold f_M_again_2; exact KZ.none
  | succ n ih =>
    intro w x0 h
    unfold f_M_again_2
    repeat' (first | with_reducible exact KZ.none | with_reducible apply KZ.ite | with_reducible apply KZ.grd | with_reducible apply KZ.bI | with_reducible apply KZ.bA | with_reducible apply KZ.bV | with_reducible apply KZ.bJ | with_reducible apply KZ.ret | with_reducible apply Zw.ite | with_reducible apply Zw.setI | with_reducible apply Zw.setL | with_reducible apply ih | with_reducible apply z_f_M_again_85 | assumption | decide | intro _)
theorem z_f_M_again {sc : Nat → Int32} {N : Nat} {w : MW} {a1 : Nat} (h_a1 : a1 ≠ 83) (h : Zw sc N w) : KZ sc N (f_M_again w a1) := by
  unfold f_M_again
  repeat' (first | with_reducible exact KZ.none | with_reducible apply KZ.ite | with_reducible apply KZ.grd | with_reducible apply KZ.bI | with_reducible apply KZ.bA | with_reducible apply KZ.bV | with_reducible apply KZ.bJ | with_reducible apply KZ.ret | with_reducible apply Zw.ite | with_reducible apply Zw.setI | with_reducible apply Zw.setL | with_reducible apply z_f_M_again_2 | assumption | decide | intro _)
theorem z_f_M_fault {sc : Nat → Int32} {N : Nat} {w : MW} (h : Zw sc N w) : KZ sc N (f_M_fault w) := by
  unfold f_M_fault
  repeat' (first | with_reducible exact KZ.none | with_reducible apply KZ.ite | with_reducible apply KZ.grd | with_reducible apply KZ.bI | with_reducible apply KZ.bA | with_reducible apply KZ.bV | with_reducible apply KZ.bJ | with_reducible apply KZ.ret | with_reducible apply Zw.ite | with_reducible apply Zw.setI | with_reducible apply Zw.setL | assumption | decide | intro _)
theorem z_f_M_round_74 {sc : Nat → Int32} {N : Nat} : ∀ (n : Nat) (w : MW) (x0 : Int32), Zw sc N w → KZ sc N (f_M_round_74  n w x0) := by
  intro n
  induction n with
  | zero => intros; unfold f_M_round_74; exact KZ.none
  | succ n ih =>
    intro w x0 h
    unfold f_M_round_74
    repeat' (first | with_reducible exact KZ.none | with_reducible apply KZ.ite | with_reducible apply KZ.grd | with_reducible apply KZ.bI | with_reducible apply KZ.bA | with_reducible apply KZ.bV | with_reducible apply KZ.bJ | with_reducible apply KZ.ret | with_reducible apply Zw.ite | with_reducible apply Zw.setI | with_reducible apply Zw.setL | with_reducible apply ih | assumption | decide | intro _)
theorem z_f_M_round_24 {sc : Nat → Int32} {N : Nat} {k2 : MW → Int32 → Option RT} (h_k2 : ∀ (w : MW) (y0 : Int32), Zw sc N w → KZ sc N (k2 w y0)) : ∀ (n : Nat) (w : MW) (x0 : Int32) (x1 : Int32), Zw sc N w → KZ sc N (f_M_round_24 k2 n w x0 x1) := by
  intro n
  induction n with
  | zero => intros; unfold f_M_round_24; exact KZ.none
  | succ n ih =>
    intro w x0 x1 h
    unfold f_M_round_24
    repeat' (first | with_reducible exact KZ.none | with_reducible apply KZ.ite | with_reducible apply KZ.grd | with_reducible apply KZ.bI | with_reducible apply KZ.bA | with_reducible apply KZ.bV | with_reducible apply KZ.bJ | with_reducible apply KZ.ret | with_reducible apply Zw.ite | with_reducible apply Zw.setI | with_reducible apply Zw.setL | with_reducible apply ih | with_reducible apply h_k2 | assumption | decide | intro _)
theorem z_f_M_round_2 {sc : Nat → Int32} {N : Nat} : ∀ (n : Nat) (w : MW) (x0 : Int32), Zw sc N w → KZ sc N (f_M_round_2  n w x0) := by
  intro n
  induction n with
  | zero => intros; unfold f_M_round_2; exact KZ.none
  | succ n ih =>
    intro w x0 h
    unfold f_M_round_2
    repeat' (first | with_reducible exact KZ.none | with_reducible apply KZ.ite | with_reducible apply KZ.grd | with_reducible apply KZ.bI | with_reducible apply KZ.bA | with_reducible apply KZ.bV | with_reducible apply KZ.bJ | with_reducible apply KZ.ret | with_reducible apply Zw.ite | with_reducible apply Zw.setI | with_reducible apply Zw.setL | with_reducible apply ih | with_reducible apply z_f_M_round_74 | with_reducible apply z_f_M_round_24 | assumption | decide | intro _)
theorem z_f_M_round {sc : Nat → Int32} {N : Nat} {w : MW} (h : Zw sc N w) : KZ sc N (f_M_round w) := by
  unfold f_M_round
  repeat' (first | with_reducible exact KZ.none | with_reducible apply KZ.ite | with_reducible apply KZ.grd | with_reducible apply KZ.bI | with_reducible apply KZ.bA | with_reducible apply KZ.bV | with_reducible apply KZ.bJ | with_reducible apply KZ.ret | with_reducible apply Zw.ite | with_reducible apply Zw.setI | with_reducible apply Zw.setL | with_reducible apply z_f_M_round_2 | assumption | decide | intro _)
theorem z_f_M_senseOf_10 {sc : Nat → Int32} {N : Nat} : ∀ (n : Nat) (w : MW) (x0 : Int32) (x1 : Int32) (x2 : Int32) (x3 : Int32) (x4 : Int32), Zw sc N w → KZ sc N (f_M_senseOf_10  n w x0 x1 x2 x3 x4) := by
  intro n
  induction n with
  | zero => intros; unfold f_M_senseOf_10; exact KZ.none
  | succ n ih =>
    intro w x0 x1 x2 x3 x4 h
    unfold f_M_senseOf_10
    repeat' (first | with_reducible exact KZ.none | with_reducible apply KZ.ite | with_reducible apply KZ.grd | with_reducible apply KZ.bI | with_reducible apply KZ.bA | with_reducible apply KZ.bV | with_reducible apply KZ.bJ | with_reducible apply KZ.ret | with_reducible apply Zw.ite | with_reducible apply Zw.setI | with_reducible apply Zw.setL | with_reducible apply ih | assumption | decide | intro _)
theorem z_f_M_senseOf {sc : Nat → Int32} {N : Nat} {w : MW} {x1 : Int32} (h : Zw sc N w) : KZ sc N (f_M_senseOf w x1) := by
  unfold f_M_senseOf
  repeat' (first | with_reducible exact KZ.none | with_reducible apply KZ.ite | with_reducible apply KZ.grd | with_reducible apply KZ.bI | with_reducible apply KZ.bA | with_reducible apply KZ.bV | with_reducible apply KZ.bJ | with_reducible apply KZ.ret | with_reducible apply Zw.ite | with_reducible apply Zw.setI | with_reducible apply Zw.setL | with_reducible apply z_f_M_senseOf_10 | assumption | decide | intro _)
theorem z_f_M_wholeOf {sc : Nat → Int32} {N : Nat} {w : MW} (h : Zw sc N w) : KZ sc N (f_M_wholeOf w) := by
  unfold f_M_wholeOf
  repeat' (first | with_reducible exact KZ.none | with_reducible apply KZ.ite | with_reducible apply KZ.grd | with_reducible apply KZ.bI | with_reducible apply KZ.bA | with_reducible apply KZ.bV | with_reducible apply KZ.bJ | with_reducible apply KZ.ret | with_reducible apply Zw.ite | with_reducible apply Zw.setI | with_reducible apply Zw.setL | with_reducible apply z_f_M_senseOf | assumption | decide | intro _)
theorem z_f_M_belief {sc : Nat → Int32} {N : Nat} {w : MW} {x1 : Int32} (h : Zw sc N w) : KZ sc N (f_M_belief w x1) := by
  unfold f_M_belief
  repeat' (first | with_reducible exact KZ.none | with_reducible apply KZ.ite | with_reducible apply KZ.grd | with_reducible apply KZ.bI | with_reducible apply KZ.bA | with_reducible apply KZ.bV | with_reducible apply KZ.bJ | with_reducible apply KZ.ret | with_reducible apply Zw.ite | with_reducible apply Zw.setI | with_reducible apply Zw.setL | with_reducible apply z_u_M_no10 | assumption | decide | intro _)
theorem z_f_M_isSet {sc : Nat → Int32} {N : Nat} {w : MW} {x1 : Int32} (h : Zw sc N w) : KZ sc N (f_M_isSet w x1) := by
  unfold f_M_isSet
  repeat' (first | with_reducible exact KZ.none | with_reducible apply KZ.ite | with_reducible apply KZ.grd | with_reducible apply KZ.bI | with_reducible apply KZ.bA | with_reducible apply KZ.bV | with_reducible apply KZ.bJ | with_reducible apply KZ.ret | with_reducible apply Zw.ite | with_reducible apply Zw.setI | with_reducible apply Zw.setL | assumption | decide | intro _)
theorem z_f_M_isSure_74 {sc : Nat → Int32} {N : Nat} {k62 : MW → Int32 → Int32 → Int32 → Int32 → Option RT} (h_k62 : ∀ (w : MW) (y0 y1 y2 y3 : Int32), Zw sc N w → KZ sc N (k62 w y0 y1 y2 y3)) : ∀ (n : Nat) (w : MW) (x0 : Int32) (x1 : Int32) (x2 : Int32) (x3 : Int32) (x4 : Int32), Zw sc N w → KZ sc N (f_M_isSure_74 k62 n w x0 x1 x2 x3 x4) := by
  intro n
  induction n with
  | zero => intros; unfold f_M_isSure_74; exact KZ.none
  | succ n ih =>
    intro w x0 x1 x2 x3 x4 h
    unfold f_M_isSure_74
    repeat' (first | with_reducible exact KZ.none | with_reducible apply KZ.ite | with_reducible apply KZ.grd | with_reducible apply KZ.bI | with_reducible apply KZ.bA | with_reducible apply KZ.bV | with_reducible apply KZ.bJ | with_reducible apply KZ.ret | with_reducible apply Zw.ite | with_reducible apply Zw.setI | with_reducible apply Zw.setL | with_reducible apply ih | with_reducible apply h_k62 | with_reducible apply z_f_M_wholeOf | assumption | decide | intro _)
theorem z_f_M_isSure_62 {sc : Nat → Int32} {N : Nat} : ∀ (n : Nat) (w : MW) (x0 : Int32) (x1 : Int32) (x2 : Int32) (x3 : Int32), Zw sc N w → KZ sc N (f_M_isSure_62  n w x0 x1 x2 x3) := by
  intro n
  induction n with
  | zero => intros; unfold f_M_isSure_62; exact KZ.none
  | succ n ih =>
    intro w x0 x1 x2 x3 h
    unfold f_M_isSure_62
    repeat' (first | with_reducible exact KZ.none | with_reducible apply KZ.ite | with_reducible apply KZ.grd | with_reducible apply KZ.bI | with_reducible apply KZ.bA | with_reducible apply KZ.bV | with_reducible apply KZ.bJ | with_reducible apply KZ.ret | with_reducible apply Zw.ite | with_reducible apply Zw.setI | with_reducible apply Zw.setL | with_reducible apply ih | with_reducible apply z_f_M_again | with_reducible apply z_f_M_isSure_74 | assumption | decide | intro _)
theorem z_f_M_isSure_16 {sc : Nat → Int32} {N : Nat} : ∀ (n : Nat) (w : MW) (x0 : Int32) (x1 : Int32) (x2 : Int32), Zw sc N w → KZ sc N (f_M_isSure_16  n w x0 x1 x2) := by
  intro n
  induction n with
  | zero => intros; unfold f_M_isSure_16; exact KZ.none
  | succ n ih =>
    intro w x0 x1 x2 h
    unfold f_M_isSure_16
    repeat' (first | with_reducible exact KZ.none | with_reducible apply KZ.ite | with_reducible apply KZ.grd | with_reducible apply KZ.bI | with_reducible apply KZ.bA | with_reducible apply KZ.bV | with_reducible apply KZ.bJ | with_reducible apply KZ.ret | with_reducible apply Zw.ite | with_reducible apply Zw.setI | with_reducible apply Zw.setL | with_reducible apply ih | with_reducible apply z_f_M_wholeOf | with_reducible apply z_f_M_isSure_62 | assumption | decide | intro _)
theorem z_f_M_isSure {sc : Nat → Int32} {N : Nat} {w : MW} {x1 : Int32} (h : Zw sc N w) : KZ sc N (f_M_isSure w x1) := by
  unfold f_M_isSure
  repeat' (first | with_reducible exact KZ.none | with_reducible apply KZ.ite | with_reducible apply KZ.grd | with_reducible apply KZ.bI | with_reducible apply KZ.bA | with_reducible apply KZ.bV | with_reducible apply KZ.bJ | with_reducible apply KZ.ret | with_reducible apply Zw.ite | with_reducible apply Zw.setI | with_reducible apply Zw.setL | with_reducible apply z_f_M_keep | with_reducible apply z_f_M_senseOf | with_reducible apply z_f_M_isSure_16 | assumption | decide | intro _)
theorem z_f_M_isBetter {sc : Nat → Int32} {N : Nat} {w : MW} {x0 : Int32} {x1 : Int32} (h : Zw sc N w) : KZ sc N (f_M_isBetter w x0 x1) := by
  unfold f_M_isBetter
  repeat' (first | with_reducible exact KZ.none | with_reducible apply KZ.ite | with_reducible apply KZ.grd | with_reducible apply KZ.bI | with_reducible apply KZ.bA | with_reducible apply KZ.bV | with_reducible apply KZ.bJ | with_reducible apply KZ.ret | with_reducible apply Zw.ite | with_reducible apply Zw.setI | with_reducible apply Zw.setL | with_reducible apply z_f_JI_bitCount | assumption | decide | intro _)
theorem z_f_M_speak_31 {sc : Nat → Int32} {N : Nat} : ∀ (n : Nat) (w : MW) (x0 : Int32) (x1 : Int32) (x2 : Int32) (x3 : Int32) (x4 : Int32), Zw sc N w → KZ sc N (f_M_speak_31  n w x0 x1 x2 x3 x4) := by
  intro n
  induction n with
  | zero => intros; unfold f_M_speak_31; exact KZ.none
  | succ n ih =>
    intro w x0 x1 x2 x3 x4 h
    unfold f_M_speak_31
    repeat' (first | with_reducible exact KZ.none | with_reducible apply KZ.ite | with_reducible apply KZ.grd | with_reducible apply KZ.bI | with_reducible apply KZ.bA | with_reducible apply KZ.bV | with_reducible apply KZ.bJ | with_reducible apply KZ.ret | with_reducible apply Zw.ite | with_reducible apply Zw.setI | with_reducible apply Zw.setL | with_reducible apply ih | with_reducible apply z_u_M_speaks | with_reducible apply z_u_M_no | assumption | decide | intro _)
theorem z_f_M_speak {sc : Nat → Int32} {N : Nat} {w : MW} {x1 : Int32} {x2 : Int32} {x3 : Int32} {x4 : Int32} (h : Zw sc N w) : KZ sc N (f_M_speak w x1 x2 x3 x4) := by
  unfold f_M_speak
  repeat' (first | with_reducible exact KZ.none | with_reducible apply KZ.ite | with_reducible apply KZ.grd | with_reducible apply KZ.bI | with_reducible apply KZ.bA | with_reducible apply KZ.bV | with_reducible apply KZ.bJ | with_reducible apply KZ.ret | with_reducible apply Zw.ite | with_reducible apply Zw.setI | with_reducible apply Zw.setL | with_reducible apply z_u_M_no | with_reducible apply z_f_M_speak_31 | assumption | decide | intro _)
theorem z_f_M_wanted_35 {sc : Nat → Int32} {N : Nat} {k5 : MW → Int32 → Int32 → Int32 → Int32 → Option RT} (h_k5 : ∀ (w : MW) (y0 y1 y2 y3 : Int32), Zw sc N w → KZ sc N (k5 w y0 y1 y2 y3)) : ∀ (n : Nat) (w : MW) (x0 : Int32) (x1 : Int32) (x2 : Int32) (x3 : Int32) (x4 : Int32) (x5 : Int32), Zw sc N w → KZ sc N (f_M_wanted_35 k5 n w x0 x1 x2 x3 x4 x5) := by
  intro n
  induction n with
  | zero => intros; unfold f_M_wanted_35; exact KZ.none
  | succ n ih =>
    intro w x0 x1 x2 x3 x4 x5 h
    unfold f_M_wanted_35
    repeat' (first | with_reducible exact KZ.none | with_reducible apply KZ.ite | with_reducible apply KZ.grd | with_reducible apply KZ.bI | with_reducible apply KZ.bA | with_reducible apply KZ.bV | with_reducible apply KZ.bJ | with_reducible apply KZ.ret | with_reducible apply Zw.ite | with_reducible apply Zw.setI | with_reducible apply Zw.setL | with_reducible apply ih | with_reducible apply h_k5 | assumption | decide | intro _)
theorem z_f_M_wanted_5 {sc : Nat → Int32} {N : Nat} : ∀ (n : Nat) (w : MW) (x0 : Int32) (x1 : Int32) (x2 : Int32) (x3 : Int32), Zw sc N w → KZ sc N (f_M_wanted_5  n w x0 x1 x2 x3) := by
  intro n
  induction n with
  | zero => intros; unfold f_M_wanted_5; exact KZ.none
  | succ n ih =>
    intro w x0 x1 x2 x3 h
    unfold f_M_wanted_5
    repeat' (first | with_reducible exact KZ.none | with_reducible apply KZ.ite | with_reducible apply KZ.grd | with_reducible apply KZ.bI | with_reducible apply KZ.bA | with_reducible apply KZ.bV | with_reducible apply KZ.bJ | with_reducible apply KZ.ret | with_reducible apply Zw.ite | with_reducible apply Zw.setI | with_reducible apply Zw.setL | with_reducible apply ih | with_reducible apply z_f_M_wanted_35 | assumption | decide | intro _)
theorem z_f_M_wanted {sc : Nat → Int32} {N : Nat} {w : MW} {x1 : Int32} {x2 : Int32} (h : Zw sc N w) : KZ sc N (f_M_wanted w x1 x2) := by
  unfold f_M_wanted
  repeat' (first | with_reducible exact KZ.none | with_reducible apply KZ.ite | with_reducible apply KZ.grd | with_reducible apply KZ.bI | with_reducible apply KZ.bA | with_reducible apply KZ.bV | with_reducible apply KZ.bJ | with_reducible apply KZ.ret | with_reducible apply Zw.ite | with_reducible apply Zw.setI | with_reducible apply Zw.setL | with_reducible apply z_f_M_wanted_5 | assumption | decide | intro _)
theorem z_f_M_isHeard_5 {sc : Nat → Int32} {N : Nat} : ∀ (n : Nat) (w : MW) (x0 : Int32) (x1 : Int32) (x2 : Int32) (x3 : Int32), Zw sc N w → KZ sc N (f_M_isHeard_5  n w x0 x1 x2 x3) := by
  intro n
  induction n with
  | zero => intros; unfold f_M_isHeard_5; exact KZ.none
  | succ n ih =>
    intro w x0 x1 x2 x3 h
    unfold f_M_isHeard_5
    repeat' (first | with_reducible exact KZ.none | with_reducible apply KZ.ite | with_reducible apply KZ.grd | with_reducible apply KZ.bI | with_reducible apply KZ.bA | with_reducible apply KZ.bV | with_reducible apply KZ.bJ | with_reducible apply KZ.ret | with_reducible apply Zw.ite | with_reducible apply Zw.setI | with_reducible apply Zw.setL | with_reducible apply ih | assumption | decide | intro _)
theorem z_f_M_isHeard {sc : Nat → Int32} {N : Nat} {w : MW} {x1 : Int32} {x2 : Int32} (h : Zw sc N w) : KZ sc N (f_M_isHeard w x1 x2) := by
  unfold f_M_isHeard
  repeat' (first | with_reducible exact KZ.none | with_reducible apply KZ.ite | with_reducible apply KZ.grd | with_reducible apply KZ.bI | with_reducible apply KZ.bA | with_reducible apply KZ.bV | with_reducible apply KZ.bJ | with_reducible apply KZ.ret | with_reducible apply Zw.ite | with_reducible apply Zw.setI | with_reducible apply Zw.setL | with_reducible apply z_f_M_isHeard_5 | assumption | decide | intro _)
theorem z_f_M_judge {sc : Nat → Int32} {N : Nat} {w : MW} {x1 : Int32} {x2 : Int32} (h : Zw sc N w) : KZ sc N (f_M_judge w x1 x2) := by
  unfold f_M_judge
  repeat' (first | with_reducible exact KZ.none | with_reducible apply KZ.ite | with_reducible apply KZ.grd | with_reducible apply KZ.bI | with_reducible apply KZ.bA | with_reducible apply KZ.bV | with_reducible apply KZ.bJ | with_reducible apply KZ.ret | with_reducible apply Zw.ite | with_reducible apply Zw.setI | with_reducible apply Zw.setL | with_reducible apply z_f_M_wrong | with_reducible apply z_u_M_no10 | assumption | decide | intro _)
theorem z_f_M_seed {sc : Nat → Int32} {N : Nat} {w : MW} {x1 : Int32} (h : Zw sc N w) : KZ sc N (f_M_seed w x1) := by
  unfold f_M_seed
  repeat' (first | with_reducible exact KZ.none | with_reducible apply KZ.ite | with_reducible apply KZ.grd | with_reducible apply KZ.bI | with_reducible apply KZ.bA | with_reducible apply KZ.bV | with_reducible apply KZ.bJ | with_reducible apply KZ.ret | with_reducible apply Zw.ite | with_reducible apply Zw.setI | with_reducible apply Zw.setL | assumption | decide | intro _)
theorem z_f_M_hearsBy {sc : Nat → Int32} {N : Nat} {w : MW} {x1 : Int32} {x2 : Int32} (h : Zw sc N w) : KZ sc N (f_M_hearsBy w x1 x2) := by
  unfold f_M_hearsBy
  repeat' (first | with_reducible exact KZ.none | with_reducible apply KZ.ite | with_reducible apply KZ.grd | with_reducible apply KZ.bI | with_reducible apply KZ.bA | with_reducible apply KZ.bV | with_reducible apply KZ.bJ | with_reducible apply KZ.ret | with_reducible apply Zw.ite | with_reducible apply Zw.setI | with_reducible apply Zw.setL | with_reducible apply z_u_M_ran | assumption | decide | intro _)
theorem z_f_M_makesBy {sc : Nat → Int32} {N : Nat} {w : MW} {x1 : Int32} {x2 : Int32} (h : Zw sc N w) : KZ sc N (f_M_makesBy w x1 x2) := by
  unfold f_M_makesBy
  repeat' (first | with_reducible exact KZ.none | with_reducible apply KZ.ite | with_reducible apply KZ.grd | with_reducible apply KZ.bI | with_reducible apply KZ.bA | with_reducible apply KZ.bV | with_reducible apply KZ.bJ | with_reducible apply KZ.ret | with_reducible apply Zw.ite | with_reducible apply Zw.setI | with_reducible apply Zw.setL | with_reducible apply z_u_M_ran | with_reducible apply z_f_M_hearsBy | assumption | decide | intro _)
theorem z_f_M_tellsBy {sc : Nat → Int32} {N : Nat} {w : MW} {x1 : Int32} {x2 : Int32} (h : Zw sc N w) : KZ sc N (f_M_tellsBy w x1 x2) := by
  unfold f_M_tellsBy
  repeat' (first | with_reducible exact KZ.none | with_reducible apply KZ.ite | with_reducible apply KZ.grd | with_reducible apply KZ.bI | with_reducible apply KZ.bA | with_reducible apply KZ.bV | with_reducible apply KZ.bJ | with_reducible apply KZ.ret | with_reducible apply Zw.ite | with_reducible apply Zw.setI | with_reducible apply Zw.setL | with_reducible apply z_u_M_ran | with_reducible apply z_f_M_makesBy | with_reducible apply z_f_M_hearsBy | assumption | decide | intro _)
theorem z_f_M_trace {sc : Nat → Int32} {N : Nat} {w : MW} {x1 : Int32} (h : Zw sc N w) : KZ sc N (f_M_trace w x1) := by
  unfold f_M_trace
  repeat' (first | with_reducible exact KZ.none | with_reducible apply KZ.ite | with_reducible apply KZ.grd | with_reducible apply KZ.bI | with_reducible apply KZ.bA | with_reducible apply KZ.bV | with_reducible apply KZ.bJ | with_reducible apply KZ.ret | with_reducible apply Zw.ite | with_reducible apply Zw.setI | with_reducible apply Zw.setL | assumption | decide | intro _)
theorem z_f_M_image {sc : Nat → Int32} {N : Nat} {w : MW} (h : Zw sc N w) : KZ sc N (f_M_image w) := by
  unfold f_M_image
  repeat' (first | with_reducible exact KZ.none | with_reducible apply KZ.ite | with_reducible apply KZ.grd | with_reducible apply KZ.bI | with_reducible apply KZ.bA | with_reducible apply KZ.bV | with_reducible apply KZ.bJ | with_reducible apply KZ.ret | with_reducible apply Zw.ite | with_reducible apply Zw.setI | with_reducible apply Zw.setL | with_reducible apply z_f_M_keep | assumption | decide | intro _)
theorem z_f_M_restore_24 {sc : Nat → Int32} {N : Nat} : ∀ (n : Nat) (w : MW) (x0 : Int32), Zw sc N w → KZ sc N (f_M_restore_24  n w x0) := by
  intro n
  induction n with
  | zero => intros; unfold f_M_restore_24; exact KZ.none
  | succ n ih =>
    intro w x0 h
    unfold f_M_restore_24
    repeat' (first | with_reducible exact KZ.none | with_reducible apply KZ.ite | with_reducible apply KZ.grd | with_reducible apply KZ.bI | with_reducible apply KZ.bA | with_reducible apply KZ.bV | with_reducible apply KZ.bJ | with_reducible apply KZ.ret | with_reducible apply Zw.ite | with_reducible apply Zw.setI | with_reducible apply Zw.setL | with_reducible apply ih | assumption | decide | intro _)
theorem z_f_M_restore {sc : Nat → Int32} {N : Nat} {w : MW} (h : Zw sc N w) : KZ sc N (f_M_restore w) := by
  unfold f_M_restore
  repeat' (first | with_reducible exact KZ.none | with_reducible apply KZ.ite | with_reducible apply KZ.grd | with_reducible apply KZ.bI | with_reducible apply KZ.bA | with_reducible apply KZ.bV | with_reducible apply KZ.bJ | with_reducible apply KZ.ret | with_reducible apply Zw.ite | with_reducible apply Zw.setI | with_reducible apply Zw.setL | with_reducible apply z_u_M_no | with_reducible apply z_f_M_again | with_reducible apply z_f_M_restore_24 | assumption | decide | intro _)
theorem z_f_M_status_115 {sc : Nat → Int32} {N : Nat} : ∀ (n : Nat) (w : MW) (x0 : Int32) (x1 : Int32), Zw sc N w → KZ sc N (f_M_status_115  n w x0 x1) := by
  intro n
  induction n with
  | zero => intros; unfold f_M_status_115; exact KZ.none
  | succ n ih =>
    intro w x0 x1 h
    unfold f_M_status_115
    repeat' (first | with_reducible exact KZ.none | with_reducible apply KZ.ite | with_reducible apply KZ.grd | with_reducible apply KZ.bI | with_reducible apply KZ.bA | with_reducible apply KZ.bV | with_reducible apply KZ.bJ | with_reducible apply KZ.ret | with_reducible apply Zw.ite | with_reducible apply Zw.setI | with_reducible apply Zw.setL | with_reducible apply ih | assumption | decide | intro _)
theorem z_f_M_status_88 {sc : Nat → Int32} {N : Nat} : ∀ (n : Nat) (w : MW) (x0 : Int32) (x1 : Int32), Zw sc N w → KZ sc N (f_M_status_88  n w x0 x1) := by
  intro n
  induction n with
  | zero => intros; unfold f_M_status_88; exact KZ.none
  | succ n ih =>
    intro w x0 x1 h
    unfold f_M_status_88
    repeat' (first | with_reducible exact KZ.none | with_reducible apply KZ.ite | with_reducible apply KZ.grd | with_reducible apply KZ.bI | with_reducible apply KZ.bA | with_reducible apply KZ.bV | with_reducible apply KZ.bJ | with_reducible apply KZ.ret | with_reducible apply Zw.ite | with_reducible apply Zw.setI | with_reducible apply Zw.setL | with_reducible apply ih | assumption | decide | intro _)
theorem z_f_M_status_56 {sc : Nat → Int32} {N : Nat} : ∀ (n : Nat) (w : MW) (x0 : Int32) (x1 : Int32), Zw sc N w → KZ sc N (f_M_status_56  n w x0 x1) := by
  intro n
  induction n with
  | zero => intros; unfold f_M_status_56; exact KZ.none
  | succ n ih =>
    intro w x0 x1 h
    unfold f_M_status_56
    repeat' (first | with_reducible exact KZ.none | with_reducible apply KZ.ite | with_reducible apply KZ.grd | with_reducible apply KZ.bI | with_reducible apply KZ.bA | with_reducible apply KZ.bV | with_reducible apply KZ.bJ | with_reducible apply KZ.ret | with_reducible apply Zw.ite | with_reducible apply Zw.setI | with_reducible apply Zw.setL | with_reducible apply ih | with_reducible apply z_f_JI_bitCount | assumption | decide | intro _)
theorem z_f_M_status {sc : Nat → Int32} {N : Nat} {w : MW} {x1 : Int32} (h : Zw sc N w) : KZ sc N (f_M_status w x1) := by
  unfold f_M_status
  repeat' (first | with_reducible exact KZ.none | with_reducible apply KZ.ite | with_reducible apply KZ.grd | with_reducible apply KZ.bI | with_reducible apply KZ.bA | with_reducible apply KZ.bV | with_reducible apply KZ.bJ | with_reducible apply KZ.ret | with_reducible apply Zw.ite | with_reducible apply Zw.setI | with_reducible apply Zw.setL | with_reducible apply z_f_M_status_56 | with_reducible apply z_f_M_status_88 | with_reducible apply z_f_M_status_115 | assumption | decide | intro _)
theorem z_f_M_hisOf {sc : Nat → Int32} {N : Nat} {w : MW} {x1 : Int32} (h : Zw sc N w) : KZ sc N (f_M_hisOf w x1) := by
  unfold f_M_hisOf
  repeat' (first | with_reducible exact KZ.none | with_reducible apply KZ.ite | with_reducible apply KZ.grd | with_reducible apply KZ.bI | with_reducible apply KZ.bA | with_reducible apply KZ.bV | with_reducible apply KZ.bJ | with_reducible apply KZ.ret | with_reducible apply Zw.ite | with_reducible apply Zw.setI | with_reducible apply Zw.setL | with_reducible apply z_f_M_his | assumption | decide | intro _)
theorem z_f_M_man {sc : Nat → Int32} {N : Nat} {w : MW} {x1 : Int32} {x2 : Int32} {x3 : Int32} (h : Zw sc N w) : KZ sc N (f_M_man w x1 x2 x3) := by
  unfold f_M_man
  repeat' (first | with_reducible exact KZ.none | with_reducible apply KZ.ite | with_reducible apply KZ.grd | with_reducible apply KZ.bI | with_reducible apply KZ.bA | with_reducible apply KZ.bV | with_reducible apply KZ.bJ | with_reducible apply KZ.ret | with_reducible apply Zw.ite | with_reducible apply Zw.setI | with_reducible apply Zw.setL | with_reducible apply z_u_M_no | with_reducible apply z_f_M_newMan | assumption | decide | intro _)
theorem z_f_M_manOf {sc : Nat → Int32} {N : Nat} {w : MW} {x1 : Int32} {x2 : Int32} (h : Zw sc N w) : KZ sc N (f_M_manOf w x1 x2) := by
  unfold f_M_manOf
  repeat' (first | with_reducible exact KZ.none | with_reducible apply KZ.ite | with_reducible apply KZ.grd | with_reducible apply KZ.bI | with_reducible apply KZ.bA | with_reducible apply KZ.bV | with_reducible apply KZ.bJ | with_reducible apply KZ.ret | with_reducible apply Zw.ite | with_reducible apply Zw.setI | with_reducible apply Zw.setL | with_reducible apply z_u_M_no | with_reducible apply z_f_M_hisOf | with_reducible apply z_f_JI_bitCount | assumption | decide | intro _)
theorem z_f_M_say_42 {sc : Nat → Int32} {N : Nat} : ∀ (n : Nat) (w : MW) (x0 : Int32) (x1 : Int32) (x2 : Int32), Zw sc N w → KZ sc N (f_M_say_42  n w x0 x1 x2) := by
  intro n
  induction n with
  | zero => intros; unfold f_M_say_42; exact KZ.none
  | succ n ih =>
    intro w x0 x1 x2 h
    unfold f_M_say_42
    repeat' (first | with_reducible exact KZ.none | with_reducible apply KZ.ite | with_reducible apply KZ.grd | with_reducible apply KZ.bI | with_reducible apply KZ.bA | with_reducible apply KZ.bV | with_reducible apply KZ.bJ | with_reducible apply KZ.ret | with_reducible apply Zw.ite | with_reducible apply Zw.setI | with_reducible apply Zw.setL | with_reducible apply ih | assumption | decide | intro _)
theorem z_f_M_say {sc : Nat → Int32} {N : Nat} {w : MW} {x1 : Int32} {x2 : Int32} (h : Zw sc N w) : KZ sc N (f_M_say w x1 x2) := by
  unfold f_M_say
  repeat' (first | with_reducible exact KZ.none | with_reducible apply KZ.ite | with_reducible apply KZ.grd | with_reducible apply KZ.bI | with_reducible apply KZ.bA | with_reducible apply KZ.bV | with_reducible apply KZ.bJ | with_reducible apply KZ.ret | with_reducible apply Zw.ite | with_reducible apply Zw.setI | with_reducible apply Zw.setL | with_reducible apply z_f_M_wrong | with_reducible apply z_f_M_say_42 | with_reducible apply z_u_M_no | assumption | decide | intro _)
theorem z_f_M_two {sc : Nat → Int32} {N : Nat} {w : MW} {x1 : Int32} (h : Zw sc N w) : KZ sc N (f_M_two w x1) := by
  unfold f_M_two
  repeat' (first | with_reducible exact KZ.none | with_reducible apply KZ.ite | with_reducible apply KZ.grd | with_reducible apply KZ.bI | with_reducible apply KZ.bA | with_reducible apply KZ.bV | with_reducible apply KZ.bJ | with_reducible apply KZ.ret | with_reducible apply Zw.ite | with_reducible apply Zw.setI | with_reducible apply Zw.setL | with_reducible apply z_f_M_number | with_reducible apply z_f_M_stands | with_reducible apply z_u_M_meeting | assumption | decide | intro _)
theorem z_f_M_hears {sc : Nat → Int32} {N : Nat} {w : MW} {x1 : Int32} {x2 : Int32} (h : Zw sc N w) : KZ sc N (f_M_hears w x1 x2) := by
  unfold f_M_hears
  repeat' (first | with_reducible exact KZ.none | with_reducible apply KZ.ite | with_reducible apply KZ.grd | with_reducible apply KZ.bI | with_reducible apply KZ.bA | with_reducible apply KZ.bV | with_reducible apply KZ.bJ | with_reducible apply KZ.ret | with_reducible apply Zw.ite | with_reducible apply Zw.setI | with_reducible apply Zw.setL | with_reducible apply z_u_M_no | with_reducible apply z_f_M_hisOf | assumption | decide | intro _)
theorem z_f_M_goOn_29 {sc : Nat → Int32} {N : Nat} : ∀ (n : Nat) (w : MW) (x0 : Int32) (x1 : Int32), Zw sc N w → KZ sc N (f_M_goOn_29  n w x0 x1) := by
  intro n
  induction n with
  | zero => intros; unfold f_M_goOn_29; exact KZ.none
  | succ n ih =>
    intro w x0 x1 h
    unfold f_M_goOn_29
    repeat' (first | with_reducible exact KZ.none | with_reducible apply KZ.ite | with_reducible apply KZ.grd | with_reducible apply KZ.bI | with_reducible apply KZ.bA | with_reducible apply KZ.bV | with_reducible apply KZ.bJ | with_reducible apply KZ.ret | with_reducible apply Zw.ite | with_reducible apply Zw.setI | with_reducible apply Zw.setL | with_reducible apply ih | with_reducible apply z_f_M_round | assumption | decide | intro _)
theorem z_f_M_goOn_2 {sc : Nat → Int32} {N : Nat} : ∀ (n : Nat) (w : MW) (x0 : Int32) (x1 : Int32), Zw sc N w → KZ sc N (f_M_goOn_2  n w x0 x1) := by
  intro n
  induction n with
  | zero => intros; unfold f_M_goOn_2; exact KZ.none
  | succ n ih =>
    intro w x0 x1 h
    unfold f_M_goOn_2
    repeat' (first | with_reducible exact KZ.none | with_reducible apply KZ.ite | with_reducible apply KZ.grd | with_reducible apply KZ.bI | with_reducible apply KZ.bA | with_reducible apply KZ.bV | with_reducible apply KZ.bJ | with_reducible apply KZ.ret | with_reducible apply Zw.ite | with_reducible apply Zw.setI | with_reducible apply Zw.setL | with_reducible apply ih | with_reducible apply z_f_M_goOn_29 | with_reducible apply z_f_M_hisOf | assumption | decide | intro _)
theorem z_f_M_goOn {sc : Nat → Int32} {N : Nat} {w : MW} {x1 : Int32} (h : Zw sc N w) : KZ sc N (f_M_goOn w x1) := by
  unfold f_M_goOn
  repeat' (first | with_reducible exact KZ.none | with_reducible apply KZ.ite | with_reducible apply KZ.grd | with_reducible apply KZ.bI | with_reducible apply KZ.bA | with_reducible apply KZ.bV | with_reducible apply KZ.bJ | with_reducible apply KZ.ret | with_reducible apply Zw.ite | with_reducible apply Zw.setI | with_reducible apply Zw.setL | with_reducible apply z_f_M_goOn_2 | assumption | decide | intro _)
theorem z_f_M_whole {sc : Nat → Int32} {N : Nat} {w : MW} (h : Zw sc N w) : KZ sc N (f_M_whole w) := by
  unfold f_M_whole
  repeat' (first | with_reducible exact KZ.none | with_reducible apply KZ.ite | with_reducible apply KZ.grd | with_reducible apply KZ.bI | with_reducible apply KZ.bA | with_reducible apply KZ.bV | with_reducible apply KZ.bJ | with_reducible apply KZ.ret | with_reducible apply Zw.ite | with_reducible apply Zw.setI | with_reducible apply Zw.setL | with_reducible apply z_f_M_wholeOf | assumption | decide | intro _)
theorem z_f_M_known {sc : Nat → Int32} {N : Nat} {w : MW} {x1 : Int32} {x2 : Int32} (h : Zw sc N w) : KZ sc N (f_M_known w x1 x2) := by
  unfold f_M_known
  repeat' (first | with_reducible exact KZ.none | with_reducible apply KZ.ite | with_reducible apply KZ.grd | with_reducible apply KZ.bI | with_reducible apply KZ.bA | with_reducible apply KZ.bV | with_reducible apply KZ.bJ | with_reducible apply KZ.ret | with_reducible apply Zw.ite | with_reducible apply Zw.setI | with_reducible apply Zw.setL | with_reducible apply z_u_M_no | with_reducible apply z_f_M_goOn | with_reducible apply z_f_JI_bitCount | assumption | decide | intro _)
theorem z_f_M_heardBy_4 {sc : Nat → Int32} {N : Nat} : ∀ (n : Nat) (w : MW) (x0 : Int32) (x1 : Int32) (x2 : Int32), Zw sc N w → KZ sc N (f_M_heardBy_4  n w x0 x1 x2) := by
  intro n
  induction n with
  | zero => intros; unfold f_M_heardBy_4; exact KZ.none
  | succ n ih =>
    intro w x0 x1 x2 h
    unfold f_M_heardBy_4
    repeat' (first | with_reducible exact KZ.none | with_reducible apply KZ.ite | with_reducible apply KZ.grd | with_reducible apply KZ.bI | with_reducible apply KZ.bA | with_reducible apply KZ.bV | with_reducible apply KZ.bJ | with_reducible apply KZ.ret | with_reducible apply Zw.ite | with_reducible apply Zw.setI | with_reducible apply Zw.setL | with_reducible apply ih | with_reducible apply z_f_M_hisOf | assumption | decide | intro _)
theorem z_f_M_heardBy {sc : Nat → Int32} {N : Nat} {w : MW} {x1 : Int32} (h : Zw sc N w) : KZ sc N (f_M_heardBy w x1) := by
  unfold f_M_heardBy
  repeat' (first | with_reducible exact KZ.none | with_reducible apply KZ.ite | with_reducible apply KZ.grd | with_reducible apply KZ.bI | with_reducible apply KZ.bA | with_reducible apply KZ.bV | with_reducible apply KZ.bJ | with_reducible apply KZ.ret | with_reducible apply Zw.ite | with_reducible apply Zw.setI | with_reducible apply Zw.setL | with_reducible apply z_f_M_heardBy_4 | assumption | decide | intro _)
theorem z_f_M_cover_4 {sc : Nat → Int32} {N : Nat} : ∀ (n : Nat) (w : MW) (x0 : Int32) (x1 : Int32), Zw sc N w → KZ sc N (f_M_cover_4  n w x0 x1) := by
  intro n
  induction n with
  | zero => intros; unfold f_M_cover_4; exact KZ.none
  | succ n ih =>
    intro w x0 x1 h
    unfold f_M_cover_4
    repeat' (first | with_reducible exact KZ.none | with_reducible apply KZ.ite | with_reducible apply KZ.grd | with_reducible apply KZ.bI | with_reducible apply KZ.bA | with_reducible apply KZ.bV | with_reducible apply KZ.bJ | with_reducible apply KZ.ret | with_reducible apply Zw.ite | with_reducible apply Zw.setI | with_reducible apply Zw.setL | with_reducible apply ih | with_reducible apply z_f_M_isBetter | with_reducible apply z_f_M_heardBy | assumption | decide | intro _)
theorem z_f_M_cover {sc : Nat → Int32} {N : Nat} {w : MW} (h : Zw sc N w) : KZ sc N (f_M_cover w) := by
  unfold f_M_cover
  repeat' (first | with_reducible exact KZ.none | with_reducible apply KZ.ite | with_reducible apply KZ.grd | with_reducible apply KZ.bI | with_reducible apply KZ.bA | with_reducible apply KZ.bV | with_reducible apply KZ.bJ | with_reducible apply KZ.ret | with_reducible apply Zw.ite | with_reducible apply Zw.setI | with_reducible apply Zw.setL | with_reducible apply z_f_M_cover_4 | assumption | decide | intro _)
theorem z_f_M_ask_29 {sc : Nat → Int32} {N : Nat} : ∀ (n : Nat) (w : MW) (x0 : Int32) (x1 : Int32) (x2 : Int32) (x3 : Int32) (x4 : Int32), Zw sc N w → KZ sc N (f_M_ask_29  n w x0 x1 x2 x3 x4) := by
  intro n
  induction n with
  | zero => intros; unfold f_M_ask_29; exact KZ.none
  | succ n ih =>
    intro w x0 x1 x2 x3 x4 h
    unfold f_M_ask_29
    repeat' (first | with_reducible exact KZ.none | with_reducible apply KZ.ite | with_reducible apply KZ.grd | with_reducible apply KZ.bI | with_reducible apply KZ.bA | with_reducible apply KZ.bV | with_reducible apply KZ.bJ | with_reducible apply KZ.ret | with_reducible apply Zw.ite | with_reducible apply Zw.setI | with_reducible apply Zw.setL | with_reducible apply ih | with_reducible apply z_f_M_hisOf | with_reducible apply z_f_JI_bitCount | assumption | decide | intro _)
theorem z_f_M_ask {sc : Nat → Int32} {N : Nat} {w : MW} {x1 : Int32} (h : Zw sc N w) : KZ sc N (f_M_ask w x1) := by
  unfold f_M_ask
  repeat' (first | with_reducible exact KZ.none | with_reducible apply KZ.ite | with_reducible apply KZ.grd | with_reducible apply KZ.bI | with_reducible apply KZ.bA | with_reducible apply KZ.bV | with_reducible apply KZ.bJ | with_reducible apply KZ.ret | with_reducible apply Zw.ite | with_reducible apply Zw.setI | with_reducible apply Zw.setL | with_reducible apply z_f_M_isSet | with_reducible apply z_u_M_no10 | with_reducible apply z_f_M_heardBy | with_reducible apply z_f_M_ask_29 | assumption | decide | intro _)
theorem z_f_M_soonOf_19 {sc : Nat → Int32} {N : Nat} : ∀ (n : Nat) (w : MW) (x0 : Int32) (x1 : Int32) (x2 : Int32), Zw sc N w → KZ sc N (f_M_soonOf_19  n w x0 x1 x2) := by
  intro n
  induction n with
  | zero => intros; unfold f_M_soonOf_19; exact KZ.none
  | succ n ih =>
    intro w x0 x1 x2 h
    unfold f_M_soonOf_19
    repeat' (first | with_reducible exact KZ.none | with_reducible apply KZ.ite | with_reducible apply KZ.grd | with_reducible apply KZ.bI | with_reducible apply KZ.bA | with_reducible apply KZ.bV | with_reducible apply KZ.bJ | with_reducible apply KZ.ret | with_reducible apply Zw.ite | with_reducible apply Zw.setI | with_reducible apply Zw.setL | with_reducible apply ih | with_reducible apply z_f_M_senseOf | with_reducible apply z_f_M_round | assumption | decide | intro _)
theorem z_f_M_soonOf {sc : Nat → Int32} {N : Nat} {w : MW} {x1 : Int32} (h : Zw sc N w) : KZ sc N (f_M_soonOf w x1) := by
  unfold f_M_soonOf
  repeat' (first | with_reducible exact KZ.none | with_reducible apply KZ.ite | with_reducible apply KZ.grd | with_reducible apply KZ.bI | with_reducible apply KZ.bA | with_reducible apply KZ.bV | with_reducible apply KZ.bJ | with_reducible apply KZ.ret | with_reducible apply Zw.ite | with_reducible apply Zw.setI | with_reducible apply Zw.setL | with_reducible apply z_f_M_wholeOf | with_reducible apply z_f_M_goOn | with_reducible apply z_f_M_soonOf_19 | assumption | decide | intro _)
theorem z_f_M_wrongOnes_29 {sc : Nat → Int32} {N : Nat} : ∀ (n : Nat) (w : MW) (x0 : Int32) (x1 : Int32) (x2 : Int32), Zw sc N w → KZ sc N (f_M_wrongOnes_29  n w x0 x1 x2) := by
  intro n
  induction n with
  | zero => intros; unfold f_M_wrongOnes_29; exact KZ.none
  | succ n ih =>
    intro w x0 x1 x2 h
    unfold f_M_wrongOnes_29
    repeat' (first | with_reducible exact KZ.none | with_reducible apply KZ.ite | with_reducible apply KZ.grd | with_reducible apply KZ.bI | with_reducible apply KZ.bA | with_reducible apply KZ.bV | with_reducible apply KZ.bJ | with_reducible apply KZ.ret | with_reducible apply Zw.ite | with_reducible apply Zw.setI | with_reducible apply Zw.setL | with_reducible apply ih | with_reducible apply z_f_M_senseOf | assumption | decide | intro _)
theorem z_f_M_wrongOnes {sc : Nat → Int32} {N : Nat} {w : MW} {x1 : Int32} (h : Zw sc N w) : KZ sc N (f_M_wrongOnes w x1) := by
  unfold f_M_wrongOnes
  repeat' (first | with_reducible exact KZ.none | with_reducible apply KZ.ite | with_reducible apply KZ.grd | with_reducible apply KZ.bI | with_reducible apply KZ.bA | with_reducible apply KZ.bV | with_reducible apply KZ.bJ | with_reducible apply KZ.ret | with_reducible apply Zw.ite | with_reducible apply Zw.setI | with_reducible apply Zw.setL | with_reducible apply z_u_M_no | with_reducible apply z_f_M_wholeOf | with_reducible apply z_f_M_goOn | with_reducible apply z_f_M_wrongOnes_29 | assumption | decide | intro _)
theorem z_f_M_apart_58 {sc : Nat → Int32} {N : Nat} {k26 : MW → Int32 → Int32 → Int32 → Option RT} (h_k26 : ∀ (w : MW) (y0 y1 y2 : Int32), Zw sc N w → KZ sc N (k26 w y0 y1 y2)) : ∀ (n : Nat) (w : MW) (x0 : Int32) (x1 : Int32) (x2 : Int32) (x3 : Int32), Zw sc N w → KZ sc N (f_M_apart_58 k26 n w x0 x1 x2 x3) := by
  intro n
  induction n with
  | zero => intros; unfold f_M_apart_58; exact KZ.none
  | succ n ih =>
    intro w x0 x1 x2 x3 h
    unfold f_M_apart_58
    repeat' (first | with_reducible exact KZ.none | with_reducible apply KZ.ite | with_reducible apply KZ.grd | with_reducible apply KZ.bI | with_reducible apply KZ.bA | with_reducible apply KZ.bV | with_reducible apply KZ.bJ | with_reducible apply KZ.ret | with_reducible apply Zw.ite | with_reducible apply Zw.setI | with_reducible apply Zw.setL | with_reducible apply ih | with_reducible apply h_k26 | with_reducible apply z_f_M_soonOf | with_reducible apply z_f_M_again | assumption | decide | intro _)
theorem z_f_M_apart_26 {sc : Nat → Int32} {N : Nat} : ∀ (n : Nat) (w : MW) (x0 : Int32) (x1 : Int32) (x2 : Int32), Zw sc N w → KZ sc N (f_M_apart_26  n w x0 x1 x2) := by
  intro n
  induction n with
  | zero => intros; unfold f_M_apart_26; exact KZ.none
  | succ n ih =>
    intro w x0 x1 x2 h
    unfold f_M_apart_26
    repeat' (first | with_reducible exact KZ.none | with_reducible apply KZ.ite | with_reducible apply KZ.grd | with_reducible apply KZ.bI | with_reducible apply KZ.bA | with_reducible apply KZ.bV | with_reducible apply KZ.bJ | with_reducible apply KZ.ret | with_reducible apply Zw.ite | with_reducible apply Zw.setI | with_reducible apply Zw.setL | with_reducible apply ih | with_reducible apply z_f_M_isBetter | with_reducible apply z_f_M_apart_58 | assumption | decide | intro _)
theorem z_f_M_apart {sc : Nat → Int32} {N : Nat} {w : MW} {x1 : Int32} (h : Zw sc N w) : KZ sc N (f_M_apart w x1) := by
  unfold f_M_apart
  repeat' (first | with_reducible exact KZ.none | with_reducible apply KZ.ite | with_reducible apply KZ.grd | with_reducible apply KZ.bI | with_reducible apply KZ.bA | with_reducible apply KZ.bV | with_reducible apply KZ.bJ | with_reducible apply KZ.ret | with_reducible apply Zw.ite | with_reducible apply Zw.setI | with_reducible apply Zw.setL | with_reducible apply z_u_M_no10 | with_reducible apply z_f_M_keep | with_reducible apply z_f_M_apart_26 | assumption | decide | intro _)
theorem z_f_M_haveIt_15 {sc : Nat → Int32} {N : Nat} : ∀ (n : Nat) (w : MW) (x0 : Int32) (x1 : Int32) (x2 : Int32), Zw sc N w → KZ sc N (f_M_haveIt_15  n w x0 x1 x2) := by
  intro n
  induction n with
  | zero => intros; unfold f_M_haveIt_15; exact KZ.none
  | succ n ih =>
    intro w x0 x1 x2 h
    unfold f_M_haveIt_15
    repeat' (first | with_reducible exact KZ.none | with_reducible apply KZ.ite | with_reducible apply KZ.grd | with_reducible apply KZ.bI | with_reducible apply KZ.bA | with_reducible apply KZ.bV | with_reducible apply KZ.bJ | with_reducible apply KZ.ret | with_reducible apply Zw.ite | with_reducible apply Zw.setI | with_reducible apply Zw.setL | with_reducible apply ih | with_reducible apply z_f_M_senseOf | assumption | decide | intro _)
theorem z_f_M_haveIt {sc : Nat → Int32} {N : Nat} {w : MW} (h : Zw sc N w) : KZ sc N (f_M_haveIt w) := by
  unfold f_M_haveIt
  repeat' (first | with_reducible exact KZ.none | with_reducible apply KZ.ite | with_reducible apply KZ.grd | with_reducible apply KZ.bI | with_reducible apply KZ.bA | with_reducible apply KZ.bV | with_reducible apply KZ.bJ | with_reducible apply KZ.ret | with_reducible apply Zw.ite | with_reducible apply Zw.setI | with_reducible apply Zw.setL | with_reducible apply z_f_M_wholeOf | with_reducible apply z_f_M_goOn | with_reducible apply z_f_M_haveIt_15 | assumption | decide | intro _)
theorem z_f_M_needs {sc : Nat → Int32} {N : Nat} {w : MW} {x1 : Int32} (h : Zw sc N w) : KZ sc N (f_M_needs w x1) := by
  unfold f_M_needs
  repeat' (first | with_reducible exact KZ.none | with_reducible apply KZ.ite | with_reducible apply KZ.grd | with_reducible apply KZ.bI | with_reducible apply KZ.bA | with_reducible apply KZ.bV | with_reducible apply KZ.bJ | with_reducible apply KZ.ret | with_reducible apply Zw.ite | with_reducible apply Zw.setI | with_reducible apply Zw.setL | with_reducible apply z_f_M_wrong | with_reducible apply z_f_M_wanted | with_reducible apply z_u_M_no | assumption | decide | intro _)
theorem z_f_M_count_51 {sc : Nat → Int32} {N : Nat} {k41 : MW → Int32 → Int32 → Int32 → Int32 → Int32 → Option RT} (h_k41 : ∀ (w : MW) (y0 y1 y2 y3 y4 : Int32), Zw sc N w → KZ sc N (k41 w y0 y1 y2 y3 y4)) : ∀ (n : Nat) (w : MW) (x0 : Int32) (x1 : Int32) (x2 : Int32) (x3 : Int32) (x4 : Int32) (x5 : Int32), Zw sc N w → KZ sc N (f_M_count_51 k41 n w x0 x1 x2 x3 x4 x5) := by
  intro n
  induction n with
  | zero => intros; unfold f_M_count_51; exact KZ.none
  | succ n ih =>
    intro w x0 x1 x2 x3 x4 x5 h
    unfold f_M_count_51
    repeat' (first | with_reducible exact KZ.none | with_reducible apply KZ.ite | with_reducible apply KZ.grd | with_reducible apply KZ.bI | with_reducible apply KZ.bA | with_reducible apply KZ.bV | with_reducible apply KZ.bJ | with_reducible apply KZ.ret | with_reducible apply Zw.ite | with_reducible apply Zw.setI | with_reducible apply Zw.setL | with_reducible apply ih | with_reducible apply h_k41 | with_reducible apply z_f_M_his | with_reducible apply z_f_M_isHeard | assumption | decide | intro _)
theorem z_f_M_count_41 {sc : Nat → Int32} {N : Nat} : ∀ (n : Nat) (w : MW) (x0 : Int32) (x1 : Int32) (x2 : Int32) (x3 : Int32) (x4 : Int32), Zw sc N w → KZ sc N (f_M_count_41  n w x0 x1 x2 x3 x4) := by
  intro n
  induction n with
  | zero => intros; unfold f_M_count_41; exact KZ.none
  | succ n ih =>
    intro w x0 x1 x2 x3 x4 h
    unfold f_M_count_41
    repeat' (first | with_reducible exact KZ.none | with_reducible apply KZ.ite | with_reducible apply KZ.grd | with_reducible apply KZ.bI | with_reducible apply KZ.bA | with_reducible apply KZ.bV | with_reducible apply KZ.bJ | with_reducible apply KZ.ret | with_reducible apply Zw.ite | with_reducible apply Zw.setI | with_reducible apply Zw.setL | with_reducible apply ih | with_reducible apply z_f_M_count_51 | assumption | decide | intro _)
theorem z_f_M_count {sc : Nat → Int32} {N : Nat} {w : MW} {x1 : Int32} {x2 : Int32} (h : Zw sc N w) : KZ sc N (f_M_count w x1 x2) := by
  unfold f_M_count
  repeat' (first | with_reducible exact KZ.none | with_reducible apply KZ.ite | with_reducible apply KZ.grd | with_reducible apply KZ.bI | with_reducible apply KZ.bA | with_reducible apply KZ.bV | with_reducible apply KZ.bJ | with_reducible apply KZ.ret | with_reducible apply Zw.ite | with_reducible apply Zw.setI | with_reducible apply Zw.setL | with_reducible apply z_u_M_no10 | with_reducible apply z_f_M_count_41 | assumption | decide | intro _)
theorem z_f_M_could_21 {sc : Nat → Int32} {N : Nat} : ∀ (n : Nat) (w : MW) (x0 : Int32) (x1 : Int32) (x2 : Int32), Zw sc N w → KZ sc N (f_M_could_21  n w x0 x1 x2) := by
  intro n
  induction n with
  | zero => intros; unfold f_M_could_21; exact KZ.none
  | succ n ih =>
    intro w x0 x1 x2 h
    unfold f_M_could_21
    repeat' (first | with_reducible exact KZ.none | with_reducible apply KZ.ite | with_reducible apply KZ.grd | with_reducible apply KZ.bI | with_reducible apply KZ.bA | with_reducible apply KZ.bV | with_reducible apply KZ.bJ | with_reducible apply KZ.ret | with_reducible apply Zw.ite | with_reducible apply Zw.setI | with_reducible apply Zw.setL | with_reducible apply ih | with_reducible apply z_f_M_hisOf | with_reducible apply z_f_M_isHeard | assumption | decide | intro _)
theorem z_f_M_could {sc : Nat → Int32} {N : Nat} {w : MW} {x1 : Int32} (h : Zw sc N w) : KZ sc N (f_M_could w x1) := by
  unfold f_M_could
  repeat' (first | with_reducible exact KZ.none | with_reducible apply KZ.ite | with_reducible apply KZ.grd | with_reducible apply KZ.bI | with_reducible apply KZ.bA | with_reducible apply KZ.bV | with_reducible apply KZ.bJ | with_reducible apply KZ.ret | with_reducible apply Zw.ite | with_reducible apply Zw.setI | with_reducible apply Zw.setL | with_reducible apply z_f_M_could_21 | with_reducible apply z_u_M_no | assumption | decide | intro _)
theorem z_f_M_senses_4 {sc : Nat → Int32} {N : Nat} : ∀ (n : Nat) (w : MW) (x0 : Int32) (x1 : Int32), Zw sc N w → KZ sc N (f_M_senses_4  n w x0 x1) := by
  intro n
  induction n with
  | zero => intros; unfold f_M_senses_4; exact KZ.none
  | succ n ih =>
    intro w x0 x1 h
    unfold f_M_senses_4
    repeat' (first | with_reducible exact KZ.none | with_reducible apply KZ.ite | with_reducible apply KZ.grd | with_reducible apply KZ.bI | with_reducible apply KZ.bA | with_reducible apply KZ.bV | with_reducible apply KZ.bJ | with_reducible apply KZ.ret | with_reducible apply Zw.ite | with_reducible apply Zw.setI | with_reducible apply Zw.setL | with_reducible apply ih | with_reducible apply z_f_M_hisOf | with_reducible apply z_f_M_senseOf | assumption | decide | intro _)
theorem z_f_M_senses {sc : Nat → Int32} {N : Nat} {w : MW} (h : Zw sc N w) : KZ sc N (f_M_senses w) := by
  unfold f_M_senses
  repeat' (first | with_reducible exact KZ.none | with_reducible apply KZ.ite | with_reducible apply KZ.grd | with_reducible apply KZ.bI | with_reducible apply KZ.bA | with_reducible apply KZ.bV | with_reducible apply KZ.bJ | with_reducible apply KZ.ret | with_reducible apply Zw.ite | with_reducible apply Zw.setI | with_reducible apply Zw.setL | with_reducible apply z_f_M_senses_4 | assumption | decide | intro _)
theorem z_f_M_would_67 {sc : Nat → Int32} {N : Nat} : ∀ (n : Nat) (w : MW) (x0 : Int32) (x1 : Int32) (x2 : Int32) (x3 : Int32), Zw sc N w → KZ sc N (f_M_would_67  n w x0 x1 x2 x3) := by
  intro n
  induction n with
  | zero => intros; unfold f_M_would_67; exact KZ.none
  | succ n ih =>
    intro w x0 x1 x2 x3 h
    unfold f_M_would_67
    repeat' (first | with_reducible exact KZ.none | with_reducible apply KZ.ite | with_reducible apply KZ.grd | with_reducible apply KZ.bI | with_reducible apply KZ.bA | with_reducible apply KZ.bV | with_reducible apply KZ.bJ | with_reducible apply KZ.ret | with_reducible apply Zw.ite | with_reducible apply Zw.setI | with_reducible apply Zw.setL | with_reducible apply ih | with_reducible apply z_f_M_hisOf | with_reducible apply z_f_M_senseOf | with_reducible apply z_f_M_again | assumption | decide | intro _)
theorem z_f_M_would {sc : Nat → Int32} {N : Nat} {w : MW} {x1 : Int32} {x2 : Int32} {x3 : Int32} (h : Zw sc N w) : KZ sc N (f_M_would w x1 x2 x3) := by
  unfold f_M_would
  repeat' (first | with_reducible exact KZ.none | with_reducible apply KZ.ite | with_reducible apply KZ.grd | with_reducible apply KZ.bI | with_reducible apply KZ.bA | with_reducible apply KZ.bV | with_reducible apply KZ.bJ | with_reducible apply KZ.ret | with_reducible apply Zw.ite | with_reducible apply Zw.setI | with_reducible apply Zw.setL | with_reducible apply z_u_M_no10 | with_reducible apply z_f_M_wrong | with_reducible apply z_f_M_keep | with_reducible apply z_f_M_would_67 | assumption | decide | intro _)
theorem z_f_M_heard_15 {sc : Nat → Int32} {N : Nat} : ∀ (n : Nat) (w : MW) (x0 : Int32) (x1 : Int32) (x2 : Int32), Zw sc N w → KZ sc N (f_M_heard_15  n w x0 x1 x2) := by
  intro n
  induction n with
  | zero => intros; unfold f_M_heard_15; exact KZ.none
  | succ n ih =>
    intro w x0 x1 x2 h
    unfold f_M_heard_15
    repeat' (first | with_reducible exact KZ.none | with_reducible apply KZ.ite | with_reducible apply KZ.grd | with_reducible apply KZ.bI | with_reducible apply KZ.bA | with_reducible apply KZ.bV | with_reducible apply KZ.bJ | with_reducible apply KZ.ret | with_reducible apply Zw.ite | with_reducible apply Zw.setI | with_reducible apply Zw.setL | with_reducible apply ih | with_reducible apply z_f_M_senseOf | assumption | decide | intro _)
theorem z_f_M_heard {sc : Nat → Int32} {N : Nat} {w : MW} {x1 : Int32} (h : Zw sc N w) : KZ sc N (f_M_heard w x1) := by
  unfold f_M_heard
  repeat' (first | with_reducible exact KZ.none | with_reducible apply KZ.ite | with_reducible apply KZ.grd | with_reducible apply KZ.bI | with_reducible apply KZ.bA | with_reducible apply KZ.bV | with_reducible apply KZ.bJ | with_reducible apply KZ.ret | with_reducible apply Zw.ite | with_reducible apply Zw.setI | with_reducible apply Zw.setL | with_reducible apply z_f_M_wholeOf | with_reducible apply z_f_M_goOn | with_reducible apply z_f_M_heard_15 | assumption | decide | intro _)
theorem z_f_M_reign_41 {sc : Nat → Int32} {N : Nat} {k21 : MW → Int32 → Int32 → Int32 → Option RT} (h_k21 : ∀ (w : MW) (y0 y1 y2 : Int32), Zw sc N w → KZ sc N (k21 w y0 y1 y2)) : ∀ (n : Nat) (w : MW) (x0 : Int32) (x1 : Int32) (x2 : Int32) (x3 : Int32), Zw sc N w → KZ sc N (f_M_reign_41 k21 n w x0 x1 x2 x3) := by
  intro n
  induction n with
  | zero => intros; unfold f_M_reign_41; exact KZ.none
  | succ n ih =>
    intro w x0 x1 x2 x3 h
    unfold f_M_reign_41
    repeat' (first | with_reducible exact KZ.none | with_reducible apply KZ.ite | with_reducible apply KZ.grd | with_reducible apply KZ.bI | with_reducible apply KZ.bA | with_reducible apply KZ.bV | with_reducible apply KZ.bJ | with_reducible apply KZ.ret | with_reducible apply Zw.ite | with_reducible apply Zw.setI | with_reducible apply Zw.setL | with_reducible apply ih | with_reducible apply h_k21 | with_reducible apply z_f_M_heard | with_reducible apply z_u_M_draw | assumption | decide | intro _)
theorem z_f_M_reign_21 {sc : Nat → Int32} {N : Nat} : ∀ (n : Nat) (w : MW) (x0 : Int32) (x1 : Int32) (x2 : Int32), Zw sc N w → KZ sc N (f_M_reign_21  n w x0 x1 x2) := by
  intro n
  induction n with
  | zero => intros; unfold f_M_reign_21; exact KZ.none
  | succ n ih =>
    intro w x0 x1 x2 h
    unfold f_M_reign_21
    repeat' (first | with_reducible exact KZ.none | with_reducible apply KZ.ite | with_reducible apply KZ.grd | with_reducible apply KZ.bI | with_reducible apply KZ.bA | with_reducible apply KZ.bV | with_reducible apply KZ.bJ | with_reducible apply KZ.ret | with_reducible apply Zw.ite | with_reducible apply Zw.setI | with_reducible apply Zw.setL | with_reducible apply ih | with_reducible apply z_f_M_reign_41 | with_reducible apply z_u_M_draw | assumption | decide | intro _)
theorem z_f_M_reign {sc : Nat → Int32} {N : Nat} {w : MW} {x1 : Int32} (h : Zw sc N w) : KZ sc N (f_M_reign w x1) := by
  unfold f_M_reign
  repeat' (first | with_reducible exact KZ.none | with_reducible apply KZ.ite | with_reducible apply KZ.grd | with_reducible apply KZ.bI | with_reducible apply KZ.bA | with_reducible apply KZ.bV | with_reducible apply KZ.bJ | with_reducible apply KZ.ret | with_reducible apply Zw.ite | with_reducible apply Zw.setI | with_reducible apply Zw.setL | with_reducible apply z_u_M_no | with_reducible apply z_f_M_reign_21 | assumption | decide | intro _)
theorem z_f_M_act {sc : Nat → Int32} {N : Nat} {w : MW} {x1 : Int32} {x2 : Int32} {x3 : Int32} (h : Zw sc N w) : KZ sc N (f_M_act w x1 x2 x3) := by
  unfold f_M_act
  repeat' (first | with_reducible exact KZ.none | with_reducible apply KZ.ite | with_reducible apply KZ.grd | with_reducible apply KZ.bI | with_reducible apply KZ.bA | with_reducible apply KZ.bV | with_reducible apply KZ.bJ | with_reducible apply KZ.ret | with_reducible apply Zw.ite | with_reducible apply Zw.setI | with_reducible apply Zw.setL | with_reducible apply z_f_M_hearsBy | with_reducible apply z_f_M_makesBy | with_reducible apply z_f_M_tellsBy | assumption | decide | intro _)
theorem z_f_M_says {sc : Nat → Int32} {N : Nat} {w : MW} {x1 : Int32} {x2 : Int32} (h : Zw sc N w) : KZ sc N (f_M_says w x1 x2) := by
  unfold f_M_says
  repeat' (first | with_reducible exact KZ.none | with_reducible apply KZ.ite | with_reducible apply KZ.grd | with_reducible apply KZ.bI | with_reducible apply KZ.bA | with_reducible apply KZ.bV | with_reducible apply KZ.bJ | with_reducible apply KZ.ret | with_reducible apply Zw.ite | with_reducible apply Zw.setI | with_reducible apply Zw.setL | with_reducible apply z_u_M_no | with_reducible apply z_f_M_hisOf | with_reducible apply z_f_M_his | with_reducible apply z_f_JI_bitCount | with_reducible apply z_f_M_isUnder | assumption | decide | intro _)
theorem z_f_M_item {sc : Nat → Int32} {N : Nat} {w : MW} (h : Zw sc N w) : KZ sc N (f_M_item w) := by
  unfold f_M_item
  repeat' (first | with_reducible exact KZ.none | with_reducible apply KZ.ite | with_reducible apply KZ.grd | with_reducible apply KZ.bI | with_reducible apply KZ.bA | with_reducible apply KZ.bV | with_reducible apply KZ.bJ | with_reducible apply KZ.ret | with_reducible apply Zw.ite | with_reducible apply Zw.setI | with_reducible apply Zw.setL | with_reducible apply z_f_M_word_2 | with_reducible apply z_f_M_word_3 | with_reducible apply z_f_M_number | with_reducible apply z_f_M_newMan | with_reducible apply z_f_M_two | assumption | decide | intro _)
theorem z_f_M_sense {sc : Nat → Int32} {N : Nat} {w : MW} {x1 : Int32} {x2 : Int32} (h : Zw sc N w) : KZ sc N (f_M_sense w x1 x2) := by
  unfold f_M_sense
  repeat' (first | with_reducible exact KZ.none | with_reducible apply KZ.ite | with_reducible apply KZ.grd | with_reducible apply KZ.bI | with_reducible apply KZ.bA | with_reducible apply KZ.bV | with_reducible apply KZ.bJ | with_reducible apply KZ.ret | with_reducible apply Zw.ite | with_reducible apply Zw.setI | with_reducible apply Zw.setL | with_reducible apply z_u_M_no10 | with_reducible apply z_f_M_goOn | with_reducible apply z_f_M_senseOf | assumption | decide | intro _)
theorem z_f_M_together {sc : Nat → Int32} {N : Nat} {w : MW} {x1 : Int32} {x2 : Int32} (h : Zw sc N w) : KZ sc N (f_M_together w x1 x2) := by
  unfold f_M_together
  repeat' (first | with_reducible exact KZ.none | with_reducible apply KZ.ite | with_reducible apply KZ.grd | with_reducible apply KZ.bI | with_reducible apply KZ.bA | with_reducible apply KZ.bV | with_reducible apply KZ.bJ | with_reducible apply KZ.ret | with_reducible apply Zw.ite | with_reducible apply Zw.setI | with_reducible apply Zw.setL | with_reducible apply z_u_M_no10 | with_reducible apply z_f_M_isSet | with_reducible apply z_f_M_heardBy | with_reducible apply z_f_M_senseOf | with_reducible apply z_f_JI_bitCount | with_reducible apply z_f_M_isSure | assumption | decide | intro _)
theorem z_f_M_soon {sc : Nat → Int32} {N : Nat} {w : MW} {x1 : Int32} (h : Zw sc N w) : KZ sc N (f_M_soon w x1) := by
  unfold f_M_soon
  repeat' (first | with_reducible exact KZ.none | with_reducible apply KZ.ite | with_reducible apply KZ.grd | with_reducible apply KZ.bI | with_reducible apply KZ.bA | with_reducible apply KZ.bV | with_reducible apply KZ.bJ | with_reducible apply KZ.ret | with_reducible apply Zw.ite | with_reducible apply Zw.setI | with_reducible apply Zw.setL | with_reducible apply z_u_M_no10 | with_reducible apply z_f_M_soonOf | assumption | decide | intro _)
theorem z_f_M_lose_20 {sc : Nat → Int32} {N : Nat} {k7 : MW → Int32 → Int32 → Int32 → Option RT} (h_k7 : ∀ (w : MW) (y0 y1 y2 : Int32), Zw sc N w → KZ sc N (k7 w y0 y1 y2)) : ∀ (n : Nat) (w : MW) (x0 : Int32) (x1 : Int32) (x2 : Int32) (x3 : Int32), Zw sc N w → KZ sc N (f_M_lose_20 k7 n w x0 x1 x2 x3) := by
  intro n
  induction n with
  | zero => intros; unfold f_M_lose_20; exact KZ.none
  | succ n ih =>
    intro w x0 x1 x2 x3 h
    unfold f_M_lose_20
    repeat' (first | with_reducible exact KZ.none | with_reducible apply KZ.ite | with_reducible apply KZ.grd | with_reducible apply KZ.bI | with_reducible apply KZ.bA | with_reducible apply KZ.bV | with_reducible apply KZ.bJ | with_reducible apply KZ.ret | with_reducible apply Zw.ite | with_reducible apply Zw.setI | with_reducible apply Zw.setL | with_reducible apply ih | with_reducible apply h_k7 | with_reducible apply z_f_M_haveIt | with_reducible apply z_u_M_meeting | assumption | decide | intro _)
theorem z_f_M_lose_7 {sc : Nat → Int32} {N : Nat} : ∀ (n : Nat) (w : MW) (x0 : Int32) (x1 : Int32) (x2 : Int32), Zw sc N w → KZ sc N (f_M_lose_7  n w x0 x1 x2) := by
  intro n
  induction n with
  | zero => intros; unfold f_M_lose_7; exact KZ.none
  | succ n ih =>
    intro w x0 x1 x2 h
    unfold f_M_lose_7
    repeat' (first | with_reducible exact KZ.none | with_reducible apply KZ.ite | with_reducible apply KZ.grd | with_reducible apply KZ.bI | with_reducible apply KZ.bA | with_reducible apply KZ.bV | with_reducible apply KZ.bJ | with_reducible apply KZ.ret | with_reducible apply Zw.ite | with_reducible apply Zw.setI | with_reducible apply Zw.setL | with_reducible apply ih | with_reducible apply z_f_M_lose_20 | assumption | decide | intro _)
theorem z_f_M_lose {sc : Nat → Int32} {N : Nat} {w : MW} (h : Zw sc N w) : KZ sc N (f_M_lose w) := by
  unfold f_M_lose
  repeat' (first | with_reducible exact KZ.none | with_reducible apply KZ.ite | with_reducible apply KZ.grd | with_reducible apply KZ.bI | with_reducible apply KZ.bA | with_reducible apply KZ.bV | with_reducible apply KZ.bJ | with_reducible apply KZ.ret | with_reducible apply Zw.ite | with_reducible apply Zw.setI | with_reducible apply Zw.setL | with_reducible apply z_f_M_lose_7 | assumption | decide | intro _)
theorem z_f_M_swap_22 {sc : Nat → Int32} {N : Nat} {k9 : MW → Int32 → Int32 → Int32 → Option RT} (h_k9 : ∀ (w : MW) (y0 y1 y2 : Int32), Zw sc N w → KZ sc N (k9 w y0 y1 y2)) : ∀ (n : Nat) (w : MW) (x0 : Int32) (x1 : Int32) (x2 : Int32) (x3 : Int32), Zw sc N w → KZ sc N (f_M_swap_22 k9 n w x0 x1 x2 x3) := by
  intro n
  induction n with
  | zero => intros; unfold f_M_swap_22; exact KZ.none
  | succ n ih =>
    intro w x0 x1 x2 x3 h
    unfold f_M_swap_22
    repeat' (first | with_reducible exact KZ.none | with_reducible apply KZ.ite | with_reducible apply KZ.grd | with_reducible apply KZ.bI | with_reducible apply KZ.bA | with_reducible apply KZ.bV | with_reducible apply KZ.bJ | with_reducible apply KZ.ret | with_reducible apply Zw.ite | with_reducible apply Zw.setI | with_reducible apply Zw.setL | with_reducible apply ih | with_reducible apply h_k9 | with_reducible apply z_f_M_senses | with_reducible apply z_u_M_change | assumption | decide | intro _)
theorem z_f_M_swap_9 {sc : Nat → Int32} {N : Nat} : ∀ (n : Nat) (w : MW) (x0 : Int32) (x1 : Int32) (x2 : Int32), Zw sc N w → KZ sc N (f_M_swap_9  n w x0 x1 x2) := by
  intro n
  induction n with
  | zero => intros; unfold f_M_swap_9; exact KZ.none
  | succ n ih =>
    intro w x0 x1 x2 h
    unfold f_M_swap_9
    repeat' (first | with_reducible exact KZ.none | with_reducible apply KZ.ite | with_reducible apply KZ.grd | with_reducible apply KZ.bI | with_reducible apply KZ.bA | with_reducible apply KZ.bV | with_reducible apply KZ.bJ | with_reducible apply KZ.ret | with_reducible apply Zw.ite | with_reducible apply Zw.setI | with_reducible apply Zw.setL | with_reducible apply ih | with_reducible apply z_f_M_swap_22 | assumption | decide | intro _)
theorem z_f_M_swap {sc : Nat → Int32} {N : Nat} {w : MW} (h : Zw sc N w) : KZ sc N (f_M_swap w) := by
  unfold f_M_swap
  repeat' (first | with_reducible exact KZ.none | with_reducible apply KZ.ite | with_reducible apply KZ.grd | with_reducible apply KZ.bI | with_reducible apply KZ.bA | with_reducible apply KZ.bV | with_reducible apply KZ.bJ | with_reducible apply KZ.ret | with_reducible apply Zw.ite | with_reducible apply Zw.setI | with_reducible apply Zw.setL | with_reducible apply z_f_M_senses | with_reducible apply z_f_M_swap_9 | assumption | decide | intro _)
theorem z_f_M_audience {sc : Nat → Int32} {N : Nat} {w : MW} {x1 : Int32} (h : Zw sc N w) : KZ sc N (f_M_audience w x1) := by
  unfold f_M_audience
  repeat' (first | with_reducible exact KZ.none | with_reducible apply KZ.ite | with_reducible apply KZ.grd | with_reducible apply KZ.bI | with_reducible apply KZ.bA | with_reducible apply KZ.bV | with_reducible apply KZ.bJ | with_reducible apply KZ.ret | with_reducible apply Zw.ite | with_reducible apply Zw.setI | with_reducible apply Zw.setL | with_reducible apply z_u_M_no | with_reducible apply z_f_M_heard | assumption | decide | intro _)
theorem z_f_M_court_39 {sc : Nat → Int32} {N : Nat} : ∀ (n : Nat) (w : MW) (x0 : Int32) (x1 : Int32) (x2 : Int32), Zw sc N w → KZ sc N (f_M_court_39  n w x0 x1 x2) := by
  intro n
  induction n with
  | zero => intros; unfold f_M_court_39; exact KZ.none
  | succ n ih =>
    intro w x0 x1 x2 h
    unfold f_M_court_39
    repeat' (first | with_reducible exact KZ.none | with_reducible apply KZ.ite | with_reducible apply KZ.grd | with_reducible apply KZ.bI | with_reducible apply KZ.bA | with_reducible apply KZ.bV | with_reducible apply KZ.bJ | with_reducible apply KZ.ret | with_reducible apply Zw.ite | with_reducible apply Zw.setI | with_reducible apply Zw.setL | with_reducible apply ih | with_reducible apply z_f_M_again | with_reducible apply z_u_M_no | with_reducible apply z_f_M_item | with_reducible apply z_u_M_is | assumption | decide | intro _)
theorem z_f_M_court {sc : Nat → Int32} {N : Nat} {w : MW} {x1 : Int32} (h : Zw sc N w) : KZ sc N (f_M_court w x1) := by
  unfold f_M_court
  repeat' (first | with_reducible exact KZ.none | with_reducible apply KZ.ite | with_reducible apply KZ.grd | with_reducible apply KZ.bI | with_reducible apply KZ.bA | with_reducible apply KZ.bV | with_reducible apply KZ.bJ | with_reducible apply KZ.ret | with_reducible apply Zw.ite | with_reducible apply Zw.setI | with_reducible apply Zw.setL | with_reducible apply z_f_M_keep | with_reducible apply z_f_M_court_39 | with_reducible apply z_u_M_no | assumption | decide | intro _)
