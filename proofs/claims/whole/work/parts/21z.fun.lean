/-! functions with fuel: guards and calls -/
abbrev RT : Type := Option Value × MW
def vpb (i : Int32) (n : Nat) : Bool := decide (¬ (i < 0 ∨ n ≤ i.toNatClampNeg))
theorem vpb_ok {i : Int32} {n : Nat} (h : vpb i n = true) : vp_in i n := (of_decide_eq_true h : ¬ (i < 0 ∨ n ≤ i.toNatClampNeg))
theorem vpb_of {i : Int32} {n : Nat} (h : vp_in i n) : vpb i n = true := decide_eq_true (show ¬ (i < 0 ∨ n ≤ i.toNatClampNeg) from h)
def bI {α : Type} (x : Option RT) (k : Int32 → MW → Option α) : Option α := match x with
  | some (some (.int v), w) => k v w
  | _ => none
def bA {α : Type} (x : Option RT) (k : Nat → MW → Option α) : Option α := match x with
  | some (some (.ref v), w) => k v w
  | _ => none
def bJ {α : Type} (x : Option RT) (k : Int64 → MW → Option α) : Option α := match x with
  | some (some (.long v), w) => k v w
  | _ => none
def bV {α : Type} (x : Option RT) (k : MW → Option α) : Option α := match x with
  | some (none, w) => k w
  | _ => none
theorem bI_e {α : Type} {x : Option RT} {k : Int32 → MW → Option α} {r : α} (h : bI x k = some r) : ∃ v w, x = some (some (.int v), w) ∧ k v w = some r := by
  unfold bI at h
  split at h
  · exact ⟨_, _, rfl, h⟩
  · cases h
theorem bA_e {α : Type} {x : Option RT} {k : Nat → MW → Option α} {r : α} (h : bA x k = some r) : ∃ v w, x = some (some (.ref v), w) ∧ k v w = some r := by
  unfold bA at h
  split at h
  · exact ⟨_, _, rfl, h⟩
  · cases h
theorem bJ_e {α : Type} {x : Option RT} {k : Int64 → MW → Option α} {r : α} (h : bJ x k = some r) : ∃ v w, x = some (some (.long v), w) ∧ k v w = some r := by
  unfold bJ at h
  split at h
  · exact ⟨_, _, rfl, h⟩
  · cases h
theorem bV_e {α : Type} {x : Option RT} {k : MW → Option α} {r : α} (h : bV x k = some r) : ∃ w, x = some (none, w) ∧ k w = some r := by
  unfold bV at h
  split at h
  · exact ⟨_, rfl, h⟩
  · cases h
def grd {α : Type} (p : Prop) [Decidable p] (x : Option α) : Option α := if p then x else none
theorem grd_e {α : Type} {p : Prop} [Decidable p] {x : Option α} {r : α} (h : grd p x = some r) : p ∧ x = some r := by
  unfold grd at h
  split at h
  · exact ⟨by assumption, h⟩
  · cases h
theorem grd_i {α : Type} {p : Prop} [Decidable p] {x : Option α} (h : p) : grd p x = x := if_pos h
theorem ite_t {α : Type} {c : Prop} [Decidable c] {A B : Option α} {r : α} (q : c) (h : (if c then A else B) = some r) : A = some r := by rwa [if_pos q] at h
theorem ite_f {α : Type} {c : Prop} [Decidable c] {A B : Option α} {r : α} (q : ¬ c) (h : (if c then A else B) = some r) : B = some r := by rwa [if_neg q] at h
theorem ret_e {r r1 : Option Value} {w w1 : MW} (h : some (r, w) = some (r1, w1)) : r1 = r ∧ w1 = w := by
  cases h
  exact ⟨rfl, rfl⟩
def FU : Nat := 1000
