/-! numbers: Int32 out of Nat, bits -/
theorem nI_or (a b : Nat) : nI a ||| nI b = nI (a ||| b) := by
  unfold nI
  apply Int32.toBitVec_inj.mp
  simp [Int32.toBitVec_or, Int32.toBitVec_ofNat, BitVec.ofNat_or]
theorem nI_and (a b : Nat) : nI a &&& nI b = nI (a &&& b) := by
  unfold nI
  apply Int32.toBitVec_inj.mp
  simp [Int32.toBitVec_and, Int32.toBitVec_ofNat, BitVec.ofNat_and]
theorem nI_sh1 {p : Nat} (h : p < 31) : (1 : Int32) <<< (nI p &&& 31) = nI (1 <<< p) := by
  have key : ∀ p, p < 31 → (1 : Int32) <<< (nI p &&& 31) = nI (1 <<< p) := by decide +kernel
  exact key p h
theorem nI_u {m : Nat} (h : m < 2 ^ 31) : (nI m).toUInt32.toNat = m := by
  have e : (nI m).toUInt32.toNat = (nI m).toBitVec.toNat := rfl
  rw [e]
  show (BitVec.ofNat 32 m).toNat = m
  rw [BitVec.toNat_ofNat]
  omega
theorem ush_nI {m p : Nat} (hm : m < 2 ^ 31) (hp : p < 32) : ush (nI m) (nI p) = nI (m >>> p) := by
  unfold ush
  have h1 : ((nI m).toUInt32 >>> ((nI p).toUInt32 &&& Int32.toUInt32 31)).toNat = m >>> p := by
    rw [UInt32.toNat_shiftRight, UInt32.toNat_and, nI_u hm, nI_u (by omega)]
    have e : (Int32.toUInt32 31).toNat = 31 := by decide
    rw [e]
    have e2 : (p &&& 31) % 32 = p := by
      have key : ∀ p, p < 32 → (p &&& 31) % 32 = p := by decide +kernel
      exact key p hp
    rw [e2]
  apply Int32.toBitVec_inj.mp
  apply BitVec.eq_of_toNat_eq
  show ((nI m).toUInt32 >>> ((nI p).toUInt32 &&& Int32.toUInt32 31)).toNat = _
  rw [h1]
  show m >>> p = (BitVec.ofNat 32 (m >>> p)).toNat
  rw [BitVec.toNat_ofNat]
  have : m >>> p ≤ m := Nat.shiftRight_le _ _
  omega
theorem nI_bit {m p : Nat} (hm : m < 2 ^ 31) (hp : p < 32) : ((ush (nI m) (nI p)) &&& 1 = 0) ↔ m.testBit p = false := by
  rw [ush_nI hm hp, show (1 : Int32) = nI 1 from rfl, nI_and, show (0 : Int32) = nI 0 from rfl]
  have h1 : m >>> p ≤ m := Nat.shiftRight_le _ _
  have h2 : m >>> p &&& 1 ≤ 1 := Nat.and_le_right
  rw [nI_eq (by omega) (by decide), Nat.and_one_is_mod, Nat.testBit, Nat.and_comm, Nat.and_one_is_mod]
  simp
