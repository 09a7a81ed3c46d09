/-! the same rows again, not by definition (so that the kernel need not unfold) -/
theorem k0 : (0 : Int32) = nI 0 := by decide
theorem k1 : (1 : Int32) = nI 1 := by decide
theorem k2 : (2 : Int32) = nI 2 := by decide
theorem k3 : (3 : Int32) = nI 3 := by decide
theorem k4 : (4 : Int32) = nI 4 := by decide
theorem k5 : (5 : Int32) = nI 5 := by decide
theorem k6 : (6 : Int32) = nI 6 := by decide
theorem k7 : (7 : Int32) = nI 7 := by decide
theorem k8 : (8 : Int32) = nI 8 := by decide
theorem k9 : (9 : Int32) = nI 9 := by decide
theorem k10 : (10 : Int32) = nI 10 := by decide
theorem k12 : (12 : Int32) = nI 12 := by decide
theorem k20 : (20 : Int32) = nI 20 := by decide
theorem k30 : (30 : Int32) = nI 30 := by decide
theorem k31 : (31 : Int32) = nI 31 := by decide
theorem k40 : (40 : Int32) = nI 40 := by decide
theorem k99 : (99 : Int32) = nI 99 := by decide
theorem k100 : (100 : Int32) = nI 100 := by decide
theorem k160 : (160 : Int32) = nI 160 := by decide
theorem bI_k {α : Type} {v : Int32} {w : MW} {k : Int32 → MW → Option α} : bI (some (some (.int v), w)) k = k v w := Eq.trans bI_i rfl
theorem bV_k {α : Type} {w : MW} {k : MW → Option α} : bV (some (none, w)) k = k w := Eq.trans bV_n rfl
theorem rd_2k {w : MW} {a j : Nat} {v : Int32} : (setI w a j v).2 = w.2 := Eq.trans rd_2 rfl
theorem rdL_1k {w : MW} {a j : Nat} {v : Int64} : (setL w a j v).1 = w.1 := Eq.trans rdL_1 rfl
theorem bc_ex : ∃ f : Int32 → Int32, ∀ (w : MW) (x : Int32), f_JI_bitCount w x = some (some (.int (f x)), w) := ⟨pcV, fun _ _ => rfl⟩
noncomputable def pc : Int32 → Int32 := Classical.choose bc_ex
theorem bk (w : MW) (x : Int32) : f_JI_bitCount w x = some (some (.int (pc x)), w) := Classical.choose_spec bc_ex w x
theorem so_inj {a b : Int32} {w : MW} (h : (some (some (.int a), w) : Option RT) = some (some (.int b), w)) : a = b := by
  cases h
  rfl
theorem pc_eq (x : Int32) : pc x = pcV x := by
  have h1 := bk (fun _ _ => 0, fun _ _ => 0, 0) x
  rw [bc] at h1
  exact (so_inj h1).symm
theorem pc9 {m : Nat} (h : m < 256) : ¬ nI 9 ≤ pc (nI m) := by
  have key : ∀ m, m < 256 → ¬ nI 9 ≤ pcV (nI m) := by decide +kernel
  rw [pc_eq]
  exact key m h
