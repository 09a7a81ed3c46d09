/-! texts: length and charAt -/
abbrev isT (a : Nat) : Prop := 84 ≤ a ∧ a < 89
def tLen (a : Nat) : Nat := [3, 4, 4, 4, 4].getD (a - 84) 0
def tByt (a : Nat) : List Int32 := [[109, 97, 110], [109, 101, 101, 116], [112, 97, 114, 116], [119, 111, 114, 100], [104, 117, 115, 104]].getD (a - 84) []
def tCh (a : Nat) (i : Int32) : Int32 := (((tByt a).getD i.toNatClampNeg 0 &&& 255).toUInt32 % 65536).toInt32
theorem wl_compact : Cond.fieldLink "java/lang/String" 38 "java/lang/String" "COMPACT_STRINGS" "Z" ∈ GW := wi 2 227 rfl rfl
theorem wl_value : Cond.fieldLink "java/lang/String" 9 "java/lang/String" "value" "[B" ∈ GW := wi 6 127 rfl rfl
theorem wl_coder : Cond.fieldLink "java/lang/String" 15 "java/lang/String" "coder" "B" ∈ GW := wi 6 128 rfl rfl
theorem wl_fmt : Cond.fieldLink "java/lang/String" 1053 "jdk/internal/util/Preconditions" "SIOOBE_FORMATTER" "Ljava/util/function/BiFunction;" ∈ GW := wi 3 3 rfl rfl
section STR
variable {d : Nat} {M : MT} {pc a : Nat} {L : List (Option Value)} {S : List Value} {w w' : MW} {r : Option Value}
theorem Rn.compact (ho : RN M.1 = "java/lang/String") (hd : decode M.2.2.1 pc = .ok (.getstatic 38, 3)) (k : Rn d M (pc + 3) L (.int 1 :: S) w r w') : Rn d M pc L S w r w' := by
  intro p l e s m args below meth c φ av ro D cy R cells slots Q H locs la X hR hE HD hS hl
  obtain ⟨hx, hb, hml, hown, hrt, hlk, hts, hK, hI, hX⟩ := id X
  rw [ho] at hown
  exact va_gets hx hb hX.2.2.2.2.2.1 hS hown (hts _ wl_compact) (fun x h => h) hd (k p l e s m args below meth c φ av ro D cy R cells slots Q H locs la X hR hE HD hS hl)
theorem Rn.fmt (ho : RN M.1 = "java/lang/String") (hd : decode M.2.2.1 pc = .ok (.getstatic 1053, 3)) (k0 : Rn d M (pc + 3) L (.null :: S) w r w') (k : Rn d M (pc + 3) L (.ref 94 :: S) w r w') : Rn d M pc L S w r w' := by
  intro p l e s m args below meth c φ av ro D cy R cells slots Q H locs la X hR hE HD hS hl
  obtain ⟨hx, hb, hml, hown, hrt, hlk, hts, hK, hI, hX⟩ := id X
  rw [ho] at hown
  rcases hX.2.2.2.2.2.2 with hz | hz
  · exact va_gets hx hb hz hS hown (hts _ wl_fmt) (fun x h => h) hd (k0 p l e s m args below meth c φ av ro D cy R cells slots Q H locs la X hR hE HD hS hl)
  · exact va_gets hx hb hz hS hown (hts _ wl_fmt) (fun x h => h) hd (k p l e s m args below meth c φ av ro D cy R cells slots Q H locs la X hR hE HD hS hl)
theorem Rn.tval (ha : isT a) (ho : RN M.1 = "java/lang/String") (hd : decode M.2.2.1 pc = .ok (.getfield 9, 3)) (k : Rn d M (pc + 3) L (.ref (a + 5) :: S) w r w') : Rn d M pc L (.ref a :: S) w r w' := by
  intro p l e s m args below meth c φ av ro D cy R cells slots Q H locs la X hR hE HD hS hl
  obtain ⟨hx, hb, hml, hown, hrt, hlk, hts, hK, hI, hX⟩ := id X
  rw [ho] at hown
  have h0 := (hX.2.2.2.1.1 (a - 84) (by omega)).2.2.1
  simp only [show 84 + (a - 84) = a by omega, show 89 + (a - 84) = a + 5 by omega] at h0
  exact vk_getf hx hb h0 hS hown (hts _ wl_value) (fun x h => h) hd (k p l e s m args below meth c φ av ro D cy R cells slots Q H locs la X hR hE HD hS hl)
theorem Rn.tcod (ha : isT a) (ho : RN M.1 = "java/lang/String") (hd : decode M.2.2.1 pc = .ok (.getfield 15, 3)) (k : Rn d M (pc + 3) L (.int 0 :: S) w r w') : Rn d M pc L (.ref a :: S) w r w' := by
  intro p l e s m args below meth c φ av ro D cy R cells slots Q H locs la X hR hE HD hS hl
  obtain ⟨hx, hb, hml, hown, hrt, hlk, hts, hK, hI, hX⟩ := id X
  rw [ho] at hown
  have h0 := (hX.2.2.2.1.1 (a - 84) (by omega)).2.1
  simp only [show 84 + (a - 84) = a by omega] at h0
  exact vk_getf hx hb h0 hS hown (hts _ wl_coder) (fun x h => h) hd (k p l e s m args below meth c φ av ro D cy R cells slots Q H locs la X hR hE HD hS hl)
theorem Rn.tlen (ha : isT a) (hd : decode M.2.2.1 pc = .ok (.arraylength, 1)) (k : Rn d M (pc + 1) L (.int (nI (tLen a)) :: S) w r w') : Rn d M pc L (.ref (a + 5) :: S) w r w' := by
  intro p l e s m args below meth c φ av ro D cy R cells slots Q H locs la X hR hE HD hS hl
  obtain ⟨hx, hb, hml, hown, hrt, hlk, hts, hK, hI, hX⟩ := id X
  have h0 := (hX.2.2.2.1.1 (a - 84) (by omega)).2.2.2
  simp only [show 89 + (a - 84) = a + 5 by omega] at h0
  exact va_tlen hx hb h0 hS rfl hd (k p l e s m args below meth c φ av ro D cy R cells slots Q H locs la X hR hE HD hS hl)
theorem Rn.tbyt {i : Int32} (ha : isT a) (hi : vp_in i (tLen a)) (hd : decode M.2.2.1 pc = .ok (.baload, 1)) (k : Rn d M (pc + 1) L (.int ((tByt a).getD i.toNatClampNeg 0) :: S) w r w') : Rn d M pc L (.int i :: .ref (a + 5) :: S) w r w' := by
  intro p l e s m args below meth c φ av ro D cy R cells slots Q H locs la X hR hE HD hS hl
  obtain ⟨hx, hb, hml, hown, hrt, hlk, hts, hK, hI, hX⟩ := id X
  have h0 := (hX.2.2.2.1.1 (a - 84) (by omega)).2.2.2
  simp only [show 89 + (a - 84) = a + 5 by omega] at h0
  exact va_tb hx hb h0 hS hi rfl hd (k p l e s m args below meth c φ av ro D cy R cells slots Q H locs la X hR hE HD hS hl)
theorem Rn.i2c {x : Int32} (hd : decode M.2.2.1 pc = .ok (.i2c, 1)) (k : Rn d M (pc + 1) L (.int (x.toUInt32 % 65536).toInt32 :: S) w r w') : Rn d M pc L (.int x :: S) w r w' := by
  intro p l e s m args below meth c φ av ro D cy R cells slots Q H locs la X hR hE HD hS hl
  exact lv_i2c X.1 X.2.1 hd rfl (k p l e s m args below meth c φ av ro D cy R cells slots Q H locs la X hR hE HD hS hl)
end STR
theorem c_JS_coder {d : Nat} (w : MW) (a : Nat) (ha : isT a) : Ct d mJS_coder [.ref a] w (some (.int 0)) w := by
  refine Ct.of 0 kJS_coder (Nat.le_of_ble_eq_true rfl) ?_
  refine Rn.compact rfl (by decide +kernel) ?_
  refine Rn.if_eq (off := 10) (tgt := 13) (by decide +kernel) (by decide) (fun q => absurd q (by decide)) (fun _ => ?_)
  refine Rn.blk [o0 (.aload_n 0)] 7 (by decide +kernel) rfl ?_
  refine Rn.tcod ha rfl (by decide +kernel) ?_
  refine Rn.goto (off := 4) (tgt := 14) (by decide +kernel) (by decide) ?_
  exact Rn.iret rfl rfl (by decide +kernel)
theorem c_JP_checkIndex {d : Nat} (w : MW) (i n : Int32) (v : Value) (hv : v = .null ∨ v = .ref 94) (h0 : ¬ i < 0) (h1 : i < n) : Ct d mJP_checkIndex [.int i, .int n, v] w (some (.int i)) w := by
  have key : ∀ v, Rn d mJP_checkIndex 0 [some (.int i), some (.int n), some v] [] w (some (.int i)) w := by
    intro v
    refine Rn.blk [o0 (.iload_n 0)] 1 (by decide +kernel) rfl ?_
    refine Rn.if_lt (off := 8) (tgt := 9) (by decide +kernel) (by decide) (fun q => absurd q h0) (fun _ => ?_)
    refine Rn.blk [o0 (.iload_n 0), o0 (.iload_n 1)] 6 (by decide +kernel) rfl ?_
    refine Rn.icmp_lt (off := 10) (tgt := 16) (by decide +kernel) (by decide) (fun _ => ?_) (fun q => absurd h1 q)
    refine Rn.blk [o0 (.iload_n 0)] 17 (by decide +kernel) rfl ?_
    exact Rn.iret rfl rfl (by decide +kernel)
  rcases hv with rfl | rfl
  · exact Ct.of 0 kJP_checkIndex (Nat.le_of_ble_eq_true rfl) (key _)
  · exact Ct.of 0 kJP_checkIndex (Nat.le_of_ble_eq_true rfl) (key _)
theorem c_JS_checkIndex {d : Nat} (w : MW) (i n : Int32) (h0 : ¬ i < 0) (h1 : i < n) : Ct (d + 1) mJS_checkIndex [.int i, .int n] w none w := by
  have key : ∀ v, (v = .null ∨ v = .ref 94) → v.category = 1 → Rn (d + 1) mJS_checkIndex 5 [some (.int i), some (.int n)] [v, .int n, .int i] w none w := by
    intro v hv _
    refine Rn.calls (as := [.int i, .int n, v]) (S := []) (r1 := some (.int i)) v13_1059 kJP_checkIndex (n := 3) (by decide +kernel) rfl (Nat.le_of_ble_eq_true rfl) (by decide +kernel) (c_JP_checkIndex w i n v hv h0 h1) ?_
    refine Rn.blk [o0 .pop] 9 (by decide +kernel) rfl (And.intro rfl ?_)
    exact Rn.vret rfl (by decide +kernel)
  refine Ct.of 0 kJS_checkIndex (Nat.le_of_ble_eq_true rfl) ?_
  refine Rn.blk [o0 (.iload_n 0), o0 (.iload_n 1)] 2 (by decide +kernel) rfl ?_
  exact Rn.fmt rfl (by decide +kernel) (key _ (Or.inl rfl) rfl) (key _ (Or.inr rfl) rfl)
theorem tL_lt (a : Nat) : tLen a < 2 ^ 31 := by
  unfold tLen
  rcases (show a - 84 = 0 ∨ a - 84 = 1 ∨ a - 84 = 2 ∨ a - 84 = 3 ∨ a - 84 = 4 ∨ 5 ≤ a - 84 by omega) with h | h | h | h | h | h
  · rw [h]; decide
  · rw [h]; decide
  · rw [h]; decide
  · rw [h]; decide
  · rw [h]; decide
  · rw [List.getD_eq_getElem?_getD, List.getElem?_eq_none (by simpa using h)]; decide
theorem nar_c {a : Nat} (ha : isT a) {i : Int32} (hi : vp_in i (tLen a)) : narrow .char (.int (tCh a i)) = .int (tCh a i) := by
  obtain ⟨j, hj, rfl⟩ := vp_in_of hi (tL_lt a)
  have key : ∀ a, a < 89 → 84 ≤ a → ∀ j, j < tLen a → narrow .char (.int (tCh a (nI j))) = .int (tCh a (nI j)) := by decide +kernel
  exact key a ha.2 ha.1 j hj
theorem c_JS1_charAt {d : Nat} (w : MW) (a : Nat) (i : Int32) (ha : isT a) (hi : vp_in i (tLen a)) : Ct (d + 2) mJS1_charAt [.ref (a + 5), .int i] w (some (.int (tCh a i))) w := by
  have hj := vp_in_iff.mp hi
  refine Ct.of 0 kJS1_charAt (Nat.le_of_ble_eq_true rfl) ?_
  refine Rn.blk [o0 (.iload_n 1), o0 (.aload_n 0)] 2 (by decide +kernel) rfl ?_
  refine Rn.tlen ha (by decide +kernel) ?_
  refine Rn.calls (as := [.int i, .int (nI (tLen a))]) (S := []) (r1 := none) v15_9 kJS_checkIndex (n := 2) (by decide +kernel) rfl (Nat.le_of_ble_eq_true rfl) (by decide +kernel) (c_JS_checkIndex w i _ ?_ ?_) ?_
  · rw [Int32.lt_iff_toInt_lt]
    have e0 : (0 : Int32).toInt = 0 := by decide
    omega
  · rw [Int32.lt_iff_toInt_lt, nI_toInt (tL_lt a)]
    exact hj.2
  refine Rn.blk [o0 (.aload_n 0), o0 (.iload_n 1)] 8 (by decide +kernel) rfl ?_
  refine Rn.tbyt ha hi (by decide +kernel) ?_
  refine Rn.blk [oV (.sipush 255) 3 255, o0 .iand] 13 (by decide +kernel) rfl ?_
  refine Rn.i2c (by decide +kernel) ?_
  exact Rn.iret (ty := .char) rfl (nar_c ha hi) (by decide +kernel)
theorem c_JS_isLatin1 {d : Nat} (w : MW) (a : Nat) (ha : isT a) : Ct d mJS_isLatin1 [.ref a] w (some (.int 1)) w := by
  refine Ct.of 0 kJS_isLatin1 (Nat.le_of_ble_eq_true rfl) ?_
  refine Rn.compact rfl (by decide +kernel) ?_
  refine Rn.if_eq (off := 14) (tgt := 17) (by decide +kernel) (by decide) (fun q => absurd q (by decide)) (fun _ => ?_)
  refine Rn.blk [o0 (.aload_n 0)] 7 (by decide +kernel) rfl ?_
  refine Rn.tcod ha rfl (by decide +kernel) ?_
  refine Rn.if_ne (off := 7) (tgt := 17) (by decide +kernel) (by decide) (fun q => absurd rfl q) (fun _ => ?_)
  refine Rn.blk [oV (.iconst 1) 1 1] 14 (by decide +kernel) rfl ?_
  refine Rn.goto (off := 4) (tgt := 18) (by decide +kernel) (by decide) ?_
  exact Rn.iret rfl rfl (by decide +kernel)
def f_JS_length (w : MW) (a0 : Nat) : Option RT := some (some (.int (nI (tLen a0))), w)
theorem c_JS_length {d : Nat} {r : Option Value} {w' : MW} (w : MW) (a : Nat) (ha : isT a) (hf : f_JS_length w a = some (r, w')) : Ct (d + 1) mJS_length [.ref a] w r w' := by
  have e1 := (ret_e hf).1.symm
  have e2 := (ret_e hf).2.symm
  subst e1
  subst e2
  have hz : (nI (tLen a)) >>> ((0 : Int32) &&& 31) = nI (tLen a) := by
    have key : ∀ a, a < 89 → 84 ≤ a → (nI (tLen a)) >>> ((0 : Int32) &&& 31) = nI (tLen a) := by decide +kernel
    exact key a ha.2 ha.1
  refine Ct.of 0 kJS_length (Nat.le_of_ble_eq_true rfl) ?_
  refine Rn.blk [o0 (.aload_n 0)] 1 (by decide +kernel) rfl ?_
  refine Rn.tval ha rfl (by decide +kernel) ?_
  refine Rn.tlen ha (by decide +kernel) ?_
  refine Rn.blk [o0 (.aload_n 0)] 6 (by decide +kernel) rfl ?_
  refine Rn.callt (as := []) (S := [.int (nI (tLen a))]) (r1 := some (.int 0)) v13_335 kJS_coder ha rfl (n := 0) (by decide +kernel) rfl (Nat.le_of_ble_eq_true rfl) (by decide +kernel) (c_JS_coder w a ha) ?_
  refine Rn.blk [o0 .ishr] 10 (by decide +kernel) rfl ?_
  have fin : Rn (d + 1) mJS_length 10 [some (.ref a)] [.int ((nI (tLen a)) >>> ((0 : Int32) &&& 31))] w (some (.int (nI (tLen a)))) w := by
    rw [hz]
    exact Rn.iret rfl rfl (by decide +kernel)
  exact fin
def f_JS_charAt (w : MW) (a0 : Nat) (x1 : Int32) : Option RT := grd (vpb x1 (tLen a0) = true) (some (some (.int (tCh a0 x1)), w))
theorem c_JS_charAt {d : Nat} {r : Option Value} {w' : MW} (w : MW) (a : Nat) (i : Int32) (ha : isT a) (hf : f_JS_charAt w a i = some (r, w')) : Ct (d + 3) mJS_charAt [.ref a, .int i] w r w' := by
  obtain ⟨hi, hf⟩ := grd_e hf
  have hi := vpb_ok hi
  have e1 := (ret_e hf).1.symm
  have e2 := (ret_e hf).2.symm
  subst e1
  subst e2
  refine Ct.of 0 kJS_charAt (Nat.le_of_ble_eq_true rfl) ?_
  refine Rn.blk [o0 (.aload_n 0)] 1 (by decide +kernel) rfl ?_
  refine Rn.callt (as := []) (S := []) (r1 := some (.int 1)) v13_492 kJS_isLatin1 ha rfl (n := 0) (by decide +kernel) rfl (Nat.le_of_ble_eq_true rfl) (by decide +kernel) (c_JS_isLatin1 (d := d + 2) w a ha) ?_
  refine Rn.if_eq (off := 12) (tgt := 16) (by decide +kernel) (by decide) (fun q => absurd q (by decide)) (fun _ => ?_)
  refine Rn.blk [o0 (.aload_n 0)] 8 (by decide +kernel) rfl ?_
  refine Rn.tval ha rfl (by decide +kernel) ?_
  refine Rn.blk [o0 (.iload_n 1)] 12 (by decide +kernel) rfl ?_
  refine Rn.calls (as := [.ref (a + 5), .int i]) (S := []) (r1 := some (.int (tCh a i))) v13_495 kJS1_charAt (n := 2) (by decide +kernel) rfl (Nat.le_of_ble_eq_true rfl) (by decide +kernel) (c_JS1_charAt (d := d) w a i ha hi) ?_
  exact Rn.iret (ty := .char) rfl (nar_c ha hi) (by decide +kernel)
