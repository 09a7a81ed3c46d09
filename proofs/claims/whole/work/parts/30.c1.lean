/-! facts of the world's cells -/
def isCt (c : Nat) : Prop := c = 1 ∨ c = 12 ∨ c = 23
theorem ct1 : isCt 1 := Or.inl rfl
theorem ct12 : isCt 12 := Or.inr (Or.inl rfl)
theorem ct23 : isCt 23 := Or.inr (Or.inr rfl)
theorem ct_k {c : Nat} (h : isCt c) : kd c = 2 := by rcases h with rfl | rfl | rfl <;> rfl
theorem ct_g1 {c : Nat} (h : isCt c) : gI c 2 1 := by rcases h with rfl | rfl | rfl <;> exact ⟨rfl, rfl⟩
theorem ct_g3 {c : Nat} (h : isCt c) : gI c 2 3 := by rcases h with rfl | rfl | rfl <;> exact ⟨rfl, rfl⟩
theorem ct_g4 {c : Nat} (h : isCt c) : gI c 2 4 := by rcases h with rfl | rfl | rfl <;> exact ⟨rfl, rfl⟩
theorem ct_r0 {c : Nat} (h : isCt c) : gR c 2 0 (c + 1) := by rcases h with rfl | rfl | rfl <;> exact ⟨rfl, rfl⟩
theorem ct_r2 {c : Nat} (h : isCt c) : gR c 2 2 (c + 10) := by rcases h with rfl | rfl | rfl <;> exact ⟨rfl, rfl⟩
theorem ct_k12 {c : Nat} (h : isCt c) : kd (c + 1) = 10 + 2 := by rcases h with rfl | rfl | rfl <;> rfl
theorem ct_k10 {c : Nat} (h : isCt c) : kd (c + 10) = 10 := by rcases h with rfl | rfl | rfl <;> rfl
theorem ct_l8 {c : Nat} {i : Int32} (h : isCt c) (hi : vp_in i 8) : vp_in i (al (c + 1)) := by rcases h with rfl | rfl | rfl <;> exact hi
theorem al_in2 {c : Nat} {i : Int32} (h : isCt c) (hi : vp_in i 30) : vp_in i (al (c + 10)) := by rcases h with rfl | rfl | rfl <;> exact hi
theorem vp_lt {i : Int32} {n : Nat} (h : vp_in i n) : i.toNatClampNeg < n := Nat.not_le.mp fun q => h (Or.inr q)
theorem lt8 {i : Nat} (h : i < 8) : i = 0 ∨ i = 1 ∨ i = 2 ∨ i = 3 ∨ i = 4 ∨ i = 5 ∨ i = 6 ∨ i = 7 := by omega
theorem ct_mn {c : Nat} {i : Int32} (h : isCt c) (hi : vp_in i 8) : rfo (c + 1) i.toNatClampNeg = some (c + 2 + i.toNatClampNeg) := by
  have h8 := vp_lt hi
  generalize i.toNatClampNeg = k at h8
  rcases h with rfl | rfl | rfl <;> rcases lt8 h8 with rfl | rfl | rfl | rfl | rfl | rfl | rfl | rfl <;> rfl
def isMn (a : Nat) : Prop := ∃ c i, isCt c ∧ i < 8 ∧ a = c + 2 + i
theorem mn_of {c : Nat} {i : Int32} (h : isCt c) (hi : vp_in i 8) : isMn (c + 2 + i.toNatClampNeg) := ⟨c, _, h, vp_lt hi, rfl⟩
theorem mn_at {c i : Nat} (h : isCt c) (hi : i < 8) : isMn (c + 2 + i) := ⟨c, _, h, hi, rfl⟩
theorem mn_k {a : Nat} (h : isMn a) : kd a = 3 := by
  obtain ⟨c, i, hc, hi, rfl⟩ := h
  rcases hc with rfl | rfl | rfl <;> rcases lt8 hi with rfl | rfl | rfl | rfl | rfl | rfl | rfl | rfl <;> rfl
theorem mn_g {a : Nat} (h : isMn a) (j : Nat) (hj : j < 6) : gI a 3 j := by
  obtain ⟨c, i, hc, hi, rfl⟩ := h
  have key : ∀ c ∈ [1, 12, 23], ∀ i, i < 8 → ∀ j, j < 6 → kd (c + 2 + i) = 3 ∧ rfo (c + 2 + i) j = none := by decide +kernel
  exact key c (by rcases hc with rfl | rfl | rfl <;> simp) i hi j hj
def isSh (a : Nat) : Prop := ∃ s, s < 8 ∧ a = 35 + 2 * s
theorem sh_of {i : Int32} (hi : vp_in i 8) : isSh (35 + 2 * i.toNatClampNeg) := ⟨_, vp_lt hi, rfl⟩
theorem shr_sh {i : Int32} (hi : vp_in i 8) : rfo 34 i.toNatClampNeg = some (35 + 2 * i.toNatClampNeg) := by
  have h8 := vp_lt hi
  generalize i.toNatClampNeg = k at h8
  rcases lt8 h8 with rfl | rfl | rfl | rfl | rfl | rfl | rfl | rfl <;> rfl
theorem sh_k {a : Nat} (h : isSh a) : kd a = 6 := by
  obtain ⟨s, hs, rfl⟩ := h
  rcases lt8 hs with rfl | rfl | rfl | rfl | rfl | rfl | rfl | rfl <;> rfl
theorem sh_g0 {a : Nat} (h : isSh a) : gI a 6 0 := by
  obtain ⟨s, hs, rfl⟩ := h
  rcases lt8 hs with rfl | rfl | rfl | rfl | rfl | rfl | rfl | rfl <;> exact ⟨rfl, rfl⟩
theorem sh_g1 {a : Nat} (h : isSh a) : gI a 6 1 := by
  obtain ⟨s, hs, rfl⟩ := h
  rcases lt8 hs with rfl | rfl | rfl | rfl | rfl | rfl | rfl | rfl <;> exact ⟨rfl, rfl⟩
theorem sh_r2 {a : Nat} (h : isSh a) : gR a 6 2 (a + 1) := by
  obtain ⟨s, hs, rfl⟩ := h
  rcases lt8 hs with rfl | rfl | rfl | rfl | rfl | rfl | rfl | rfl <;> exact ⟨rfl, rfl⟩
theorem sh_k1 {a : Nat} (h : isSh a) : kd (a + 1) = 11 := by
  obtain ⟨s, hs, rfl⟩ := h
  rcases lt8 hs with rfl | rfl | rfl | rfl | rfl | rfl | rfl | rfl <;> rfl
theorem sh_in {a : Nat} {i : Int32} (h : isSh a) (hi : vp_in i 160) : vp_in i (al (a + 1)) := by
  obtain ⟨s, hs, rfl⟩ := h
  rcases lt8 hs with rfl | rfl | rfl | rfl | rfl | rfl | rfl | rfl <;> exact hi
theorem nz {v : Int32} (h : v = 0 ∨ v = 1) : narrow .boolean (.int v) = .int v := by
  rcases h with rfl | rfl <;> rfl
theorem vpd {i : Int32} {n : Nat} (h : ¬ (i < 0 ∨ n ≤ i.toNatClampNeg)) : vp_in i n := h
theorem al_in {w : MW} {a n : Nat} {i : Int32} (hk : kd a = 10) (ha : al a = n) (hi : vp_in i n) : vp_in i (aln w a) := by
  have h81 := kd_lt hk (by omega)
  have e : aln w a = n := by
    unfold aln
    rw [if_neg (by omega), if_neg (by omega), if_neg (by omega), ha]
  rw [e]
  exact hi
theorem ct_l30 {c : Nat} (h : isCt c) : al (c + 10) = 30 := by rcases h with rfl | rfl | rfl <;> rfl
theorem neg8 {x : Int32} (h1 : ¬ -1 < x) (h2 : ¬ x < -7) : vp_in (-x) 8 := by
  rw [vp_in_iff]
  have a := Int32.not_lt.mp h1
  have b := Int32.not_lt.mp h2
  rw [Int32.le_iff_toInt_le] at a b
  have e1 : (-1 : Int32).toInt = -1 := by decide
  have e7 : (-7 : Int32).toInt = -7 := by decide
  rw [e1] at a
  rw [e7] at b
  have e : (-x).toInt = -x.toInt := by
    rw [Int32.toInt_neg]
    rw [Int.bmod_eq_of_le] <;> omega
  rw [e]
  omega

def v_Sh_isMan (w : MW) (a0 : Nat) : Int32 := if (w.1 a0 0) < 0 then 0 else if 100 ≤ (w.1 a0 0) then 0 else 1
set_option maxHeartbeats 4000000 in
theorem c_Sh_isMan {d : Nat} (w : MW) (a0 : Nat) (c0 : isSh a0) : Ct d mSh_isMan [.ref a0] w (some (.int (v_Sh_isMan w a0))) w := by
  refine eSh_isMan ?_
  refine bSh_isMan_0 (h1 := sh_g0 c0) (kt := fun q1 => ?_) (kf := fun q1 => ?_)
  · refine bSh_isMan_20 (k := ?_)
    exact bSh_isMan_21 (hr := by simp only [v_Sh_isMan, if_pos q1]) 
  · refine bSh_isMan_7 (h1 := sh_g0 c0) (kt := fun q2 => ?_) (kf := fun q2 => ?_)
    · refine bSh_isMan_20 (k := ?_)
      exact bSh_isMan_21 (hr := by simp only [v_Sh_isMan, if_neg q1, if_pos q2]) 
    · refine bSh_isMan_16 (k := ?_)
      exact bSh_isMan_21 (hr := by simp only [v_Sh_isMan, if_neg q1, if_neg q2]) 
theorem z_Sh_isMan (w : MW) (a0 : Nat) : v_Sh_isMan w a0 = 0 ∨ v_Sh_isMan w a0 = 1 := by
  unfold v_Sh_isMan
  repeat' split
  all_goals first | exact Or.inl rfl | exact Or.inr rfl
def v_Sh_isRow (w : MW) (a0 : Nat) : Int32 := if (w.1 a0 0) < 100 then 0 else 1
set_option maxHeartbeats 4000000 in
theorem c_Sh_isRow {d : Nat} (w : MW) (a0 : Nat) (c0 : isSh a0) : Ct d mSh_isRow [.ref a0] w (some (.int (v_Sh_isRow w a0))) w := by
  refine eSh_isRow ?_
  refine bSh_isRow_0 (h1 := sh_g0 c0) (kt := fun q1 => ?_) (kf := fun q1 => ?_)
  · refine bSh_isRow_13 (k := ?_)
    exact bSh_isRow_14 (hr := by simp only [v_Sh_isRow, if_pos q1]) 
  · refine bSh_isRow_9 (k := ?_)
    exact bSh_isRow_14 (hr := by simp only [v_Sh_isRow, if_neg q1]) 
theorem z_Sh_isRow (w : MW) (a0 : Nat) : v_Sh_isRow w a0 = 0 ∨ v_Sh_isRow w a0 = 1 := by
  unfold v_Sh_isRow
  repeat' split
  all_goals first | exact Or.inl rfl | exact Or.inr rfl
def v_Sh_has (w : MW) (a0 : Nat) (x1 : Int32) : Int32 := if x1 < 0 then 0 else if (w.1 a0 1) ≤ x1 then 0 else 1
set_option maxHeartbeats 4000000 in
theorem c_Sh_has {d : Nat} (w : MW) (a0 : Nat) (x1 : Int32) (c0 : isSh a0) : Ct d mSh_has [.ref a0, .int x1] w (some (.int (v_Sh_has w a0 x1))) w := by
  refine eSh_has ?_
  refine bSh_has_0 (kt := fun q1 => ?_) (kf := fun q1 => ?_)
  · refine bSh_has_16 (k := ?_)
    exact bSh_has_17 (hr := by simp only [v_Sh_has, if_pos q1]) 
  · refine bSh_has_4 (h1 := sh_g1 c0) (kt := fun q2 => ?_) (kf := fun q2 => ?_)
    · refine bSh_has_16 (k := ?_)
      exact bSh_has_17 (hr := by simp only [v_Sh_has, if_neg q1, if_pos q2]) 
    · refine bSh_has_12 (k := ?_)
      exact bSh_has_17 (hr := by simp only [v_Sh_has, if_neg q1, if_neg q2]) 
theorem z_Sh_has (w : MW) (a0 : Nat) (x1 : Int32) : v_Sh_has w a0 x1 = 0 ∨ v_Sh_has w a0 x1 = 1 := by
  unfold v_Sh_has
  repeat' split
  all_goals first | exact Or.inl rfl | exact Or.inr rfl
def u_Sh_takeNothing (w : MW) (a0 : Nat) : MW := setI (setI w a0 0 (-1)) a0 1 0
set_option maxHeartbeats 4000000 in
theorem c_Sh_takeNothing {d : Nat} (w : MW) (a0 : Nat) (c0 : isSh a0) : Ct d mSh_takeNothing [.ref a0] w none (u_Sh_takeNothing w a0) := by
  refine eSh_takeNothing ?_
  exact bSh_takeNothing_0 (h1 := sh_g0 c0) (h2 := sh_g1 c0) (hw := by simp only [u_Sh_takeNothing])
def u_Sh_takeMan (w : MW) (a0 : Nat) (x1 : Int32) : MW := setI (setI w a0 0 x1) a0 1 0
set_option maxHeartbeats 4000000 in
theorem c_Sh_takeMan {d : Nat} (w : MW) (a0 : Nat) (x1 : Int32) (c0 : isSh a0) : Ct d mSh_takeMan [.ref a0, .int x1] w none (u_Sh_takeMan w a0 x1) := by
  refine eSh_takeMan ?_
  exact bSh_takeMan_0 (h1 := sh_g0 c0) (h2 := sh_g1 c0) (hw := by simp only [u_Sh_takeMan])
def v_Sh_asInt (w : MW) (a0 : Nat) (x1 : Int32) : Int32 := if x1 < 0 then (-1) else if (w.1 a0 1) ≤ x1 then (-1) else (w.2.1 (a0 + 1) x1.toNatClampNeg).toInt32
set_option maxHeartbeats 4000000 in
theorem c_Sh_asInt {d : Nat} (w : MW) (a0 : Nat) (x1 : Int32) (c0 : isSh a0) (h1 : ¬ x1 < 0 → ¬ (w.1 a0 1) ≤ x1 → vp_in x1 160) : Ct d mSh_asInt [.ref a0, .int x1] w (some (.int (v_Sh_asInt w a0 x1))) w := by
  refine eSh_asInt ?_
  refine bSh_asInt_0 (kt := fun q1 => ?_) (kf := fun q1 => ?_)
  · refine bSh_asInt_22 (k := ?_)
    exact bSh_asInt_23 (hr := by simp only [v_Sh_asInt, if_pos q1]) 
  · refine bSh_asInt_4 (h1 := sh_g1 c0) (kt := fun q2 => ?_) (kf := fun q2 => ?_)
    · refine bSh_asInt_22 (k := ?_)
      exact bSh_asInt_23 (hr := by simp only [v_Sh_asInt, if_neg q1, if_pos q2]) 
    · refine bSh_asInt_12 (y1 := a0 + 1) (h1 := sh_r2 c0) (h2 := sh_k1 c0) (h3 := sh_in c0 (h1 q1 q2)) (k := ?_)
      exact bSh_asInt_23 (hr := by simp only [v_Sh_asInt, if_neg q1, if_neg q2]) 
def u_Sh_put (w : MW) (a0 : Nat) (x1 : Int32) (z2 : Int64) : MW := if (v_Sh_has w a0 x1) = 0 then w else if ((w.1 a0 0) - 100) = 0 then (setL w (a0 + 1) x1.toNatClampNeg z2.toInt32.toInt8.toInt32.toInt64) else if ((w.1 a0 0) - 100) = 1 then (setL w (a0 + 1) x1.toNatClampNeg z2.toInt32.toInt16.toInt32.toInt64) else if ((w.1 a0 0) - 100) = 2 then (setL w (a0 + 1) x1.toNatClampNeg z2.toInt32.toInt64) else setL w (a0 + 1) x1.toNatClampNeg z2
set_option maxHeartbeats 4000000 in
theorem c_Sh_put {d : Nat} (w : MW) (a0 : Nat) (x1 : Int32) (z2 : Int64) (c0 : isSh a0) (h1 : ¬ (v_Sh_has w a0 x1) = 0 → ((w.1 a0 0) - 100) = 0 → vp_in x1 160) (h2 : ¬ (v_Sh_has w a0 x1) = 0 → ((w.1 a0 0) - 100) = 1 → vp_in x1 160) (h3 : ¬ (v_Sh_has w a0 x1) = 0 → ((w.1 a0 0) - 100) = 2 → vp_in x1 160) (h4 : ¬ (v_Sh_has w a0 x1) = 0 → ¬ ((w.1 a0 0) - 100) = 0 → ¬ ((w.1 a0 0) - 100) = 1 → ¬ ((w.1 a0 0) - 100) = 2 → vp_in x1 160) : Ct (d + 1) mSh_put [.ref a0, .int x1, .long z2] w none (u_Sh_put w a0 x1 z2) := by
  refine eSh_put ?_
  refine bSh_put_0 (h1 := sh_k c0) (ct := c_Sh_has (d := d) w a0 x1 c0) (k := ?_)
  refine bSh_put_5 (kt := fun q1 => ?_) (kf := fun q1 => ?_)
  · refine bSh_put_9 (h1 := sh_g0 c0) (k0 := fun q2 => ?_) (k1 := fun q3 => ?_) (k2 := fun q4 => ?_) (kd := fun q2 q3 q4 => ?_)
    · refine bSh_put_44 (y1 := a0 + 1) (h1 := sh_r2 c0) (h2 := sh_k1 c0) (h3 := sh_in c0 (h1 q1 q2)) (k := ?_)
      exact bSh_put_89 (hw := by simp [u_Sh_put, if_neg q1, q2])
    · refine bSh_put_57 (y1 := a0 + 1) (h1 := sh_r2 c0) (h2 := sh_k1 c0) (h3 := sh_in c0 (h2 q1 q3)) (k := ?_)
      exact bSh_put_89 (hw := by simp [u_Sh_put, if_neg q1, q3])
    · refine bSh_put_70 (y1 := a0 + 1) (h1 := sh_r2 c0) (h2 := sh_k1 c0) (h3 := sh_in c0 (h3 q1 q4)) (k := ?_)
      exact bSh_put_89 (hw := by simp [u_Sh_put, if_neg q1, q4])
    · refine bSh_put_82 (y1 := a0 + 1) (h1 := sh_r2 c0) (h2 := sh_k1 c0) (h3 := sh_in c0 (h4 q1 q2 q3 q4)) (k := ?_)
      exact bSh_put_89 (hw := by simp [u_Sh_put, if_neg q1, q2, q3, q4])
  · exact bSh_put_8 (hw := by simp only [u_Sh_put, if_pos q1])
def u_Mn_begin (w : MW) (a0 : Nat) (x1 : Int32) (x2 : Int32) (x3 : Int32) : MW := setI (setI (setI (setI (setI (setI w a0 0 x1) a0 1 x2) a0 2 x3) a0 3 (-1)) a0 4 0) a0 5 0
set_option maxHeartbeats 4000000 in
theorem c_Mn_begin {d : Nat} (w : MW) (a0 : Nat) (x1 : Int32) (x2 : Int32) (x3 : Int32) (c0 : isMn a0) : Ct d mMn_begin [.ref a0, .int x1, .int x2, .int x3] w none (u_Mn_begin w a0 x1 x2 x3) := by
  refine eMn_begin ?_
  exact bMn_begin_0 (h1 := mn_g c0 0 (by decide)) (h2 := mn_g c0 1 (by decide)) (h3 := mn_g c0 2 (by decide)) (h4 := mn_g c0 3 (by decide)) (h5 := mn_g c0 4 (by decide)) (h6 := mn_g c0 5 (by decide)) (hw := by simp only [u_Mn_begin])
def u_Mn_become (w : MW) (a0 : Nat) (a1 : Nat) : MW := setI (setI (setI (setI (setI (setI w a0 0 (w.1 a1 0)) a0 1 ((setI w a0 0 (w.1 a1 0)).1 a1 1)) a0 2 ((setI (setI w a0 0 (w.1 a1 0)) a0 1 ((setI w a0 0 (w.1 a1 0)).1 a1 1)).1 a1 2)) a0 3 ((setI (setI (setI w a0 0 (w.1 a1 0)) a0 1 ((setI w a0 0 (w.1 a1 0)).1 a1 1)) a0 2 ((setI (setI w a0 0 (w.1 a1 0)) a0 1 ((setI w a0 0 (w.1 a1 0)).1 a1 1)).1 a1 2)).1 a1 3)) a0 4 ((setI (setI (setI (setI w a0 0 (w.1 a1 0)) a0 1 ((setI w a0 0 (w.1 a1 0)).1 a1 1)) a0 2 ((setI (setI w a0 0 (w.1 a1 0)) a0 1 ((setI w a0 0 (w.1 a1 0)).1 a1 1)).1 a1 2)) a0 3 ((setI (setI (setI w a0 0 (w.1 a1 0)) a0 1 ((setI w a0 0 (w.1 a1 0)).1 a1 1)) a0 2 ((setI (setI w a0 0 (w.1 a1 0)) a0 1 ((setI w a0 0 (w.1 a1 0)).1 a1 1)).1 a1 2)).1 a1 3)).1 a1 4)) a0 5 ((setI (setI (setI (setI (setI w a0 0 (w.1 a1 0)) a0 1 ((setI w a0 0 (w.1 a1 0)).1 a1 1)) a0 2 ((setI (setI w a0 0 (w.1 a1 0)) a0 1 ((setI w a0 0 (w.1 a1 0)).1 a1 1)).1 a1 2)) a0 3 ((setI (setI (setI w a0 0 (w.1 a1 0)) a0 1 ((setI w a0 0 (w.1 a1 0)).1 a1 1)) a0 2 ((setI (setI w a0 0 (w.1 a1 0)) a0 1 ((setI w a0 0 (w.1 a1 0)).1 a1 1)).1 a1 2)).1 a1 3)) a0 4 ((setI (setI (setI (setI w a0 0 (w.1 a1 0)) a0 1 ((setI w a0 0 (w.1 a1 0)).1 a1 1)) a0 2 ((setI (setI w a0 0 (w.1 a1 0)) a0 1 ((setI w a0 0 (w.1 a1 0)).1 a1 1)).1 a1 2)) a0 3 ((setI (setI (setI w a0 0 (w.1 a1 0)) a0 1 ((setI w a0 0 (w.1 a1 0)).1 a1 1)) a0 2 ((setI (setI w a0 0 (w.1 a1 0)) a0 1 ((setI w a0 0 (w.1 a1 0)).1 a1 1)).1 a1 2)).1 a1 3)).1 a1 4)).1 a1 5)
set_option maxHeartbeats 4000000 in
theorem c_Mn_become {d : Nat} (w : MW) (a0 : Nat) (a1 : Nat) (c0 : isMn a0) (c1 : isMn a1) : Ct d mMn_become [.ref a0, .ref a1] w none (u_Mn_become w a0 a1) := by
  refine eMn_become ?_
  exact bMn_become_0 (h1 := mn_g c1 0 (by decide)) (h2 := mn_g c0 0 (by decide)) (h3 := mn_g c1 1 (by decide)) (h4 := mn_g c0 1 (by decide)) (h5 := mn_g c1 2 (by decide)) (h6 := mn_g c0 2 (by decide)) (h7 := mn_g c1 3 (by decide)) (h8 := mn_g c0 3 (by decide)) (h9 := mn_g c1 4 (by decide)) (h10 := mn_g c0 4 (by decide)) (h11 := mn_g c1 5 (by decide)) (h12 := mn_g c0 5 (by decide)) (hw := by simp only [u_Mn_become])
def u_Mv_forget (w : MW) : MW := setI w 60 1 0
set_option maxHeartbeats 4000000 in
theorem c_Mv_forget {d : Nat} (w : MW) : Ct d mMv_forget [.ref 60] w none (u_Mv_forget w ) := by
  refine eMv_forget ?_
  exact bMv_forget_0 (hw := by simp only [u_Mv_forget])
def u_Mv_note (w : MW) (x1 : Int32) : MW := if 20 ≤ (w.1 60 1) then (setI w 60 1 ((w.1 60 1) + 1)) else setI (setI w 61 (w.1 60 1).toNatClampNeg x1) 60 1 (((setI w 61 (w.1 60 1).toNatClampNeg x1).1 60 1) + 1)
set_option maxHeartbeats 4000000 in
theorem c_Mv_note {d : Nat} (w : MW) (x1 : Int32) (h1 : ¬ 20 ≤ (w.1 60 1) → vp_in (w.1 60 1) 20) : Ct d mMv_note [.ref 60, .int x1] w none (u_Mv_note w x1) := by
  refine eMv_note ?_
  refine bMv_note_0 (kt := fun q1 => ?_) (kf := fun q1 => ?_)
  · exact bMv_note_19 (hw := by simp only [u_Mv_note, if_pos q1])
  · refine bMv_note_9 (y1 := 61) (h4 := (h1 q1)) (k := ?_)
    exact bMv_note_19 (hw := by simp only [u_Mv_note, if_neg q1])
def v_Mv_traced (w : MW) (x1 : Int32) : Int32 := if x1 < 0 then (-1) else if (w.1 60 1) ≤ x1 then (-1) else if 20 ≤ x1 then (-1) else w.1 61 x1.toNatClampNeg
set_option maxHeartbeats 4000000 in
theorem c_Mv_traced {d : Nat} (w : MW) (x1 : Int32) (h1 : ¬ x1 < 0 → ¬ (w.1 60 1) ≤ x1 → ¬ 20 ≤ x1 → vp_in x1 20) : Ct d mMv_traced [.ref 60, .int x1] w (some (.int (v_Mv_traced w x1))) w := by
  refine eMv_traced ?_
  refine bMv_traced_0 (kt := fun q1 => ?_) (kf := fun q1 => ?_)
  · refine bMv_traced_27 (k := ?_)
    exact bMv_traced_28 (hr := by simp only [v_Mv_traced, if_pos q1]) 
  · refine bMv_traced_4 (kt := fun q2 => ?_) (kf := fun q2 => ?_)
    · refine bMv_traced_27 (k := ?_)
      exact bMv_traced_28 (hr := by simp only [v_Mv_traced, if_neg q1, if_pos q2]) 
    · refine bMv_traced_12 (kt := fun q3 => ?_) (kf := fun q3 => ?_)
      · refine bMv_traced_27 (k := ?_)
        exact bMv_traced_28 (hr := by simp only [v_Mv_traced, if_neg q1, if_neg q2, if_pos q3]) 
      · refine bMv_traced_18 (y1 := 61) (h3 := (h1 q1 q2 q3)) (k := ?_)
        exact bMv_traced_28 (hr := by simp only [v_Mv_traced, if_neg q1, if_neg q2, if_neg q3]) 
def v_Ct_isMan (w : MW) (a0 : Nat) (x1 : Int32) : Int32 := if x1 < 0 then 0 else if (w.1 a0 1) ≤ x1 then 0 else 1
set_option maxHeartbeats 4000000 in
theorem c_Ct_isMan {d : Nat} (w : MW) (a0 : Nat) (x1 : Int32) (c0 : isCt a0) : Ct d mCt_isMan [.ref a0, .int x1] w (some (.int (v_Ct_isMan w a0 x1))) w := by
  refine eCt_isMan ?_
  refine bCt_isMan_0 (kt := fun q1 => ?_) (kf := fun q1 => ?_)
  · refine bCt_isMan_16 (k := ?_)
    exact bCt_isMan_17 (hr := by simp only [v_Ct_isMan, if_pos q1]) 
  · refine bCt_isMan_4 (h1 := ct_g1 c0) (kt := fun q2 => ?_) (kf := fun q2 => ?_)
    · refine bCt_isMan_16 (k := ?_)
      exact bCt_isMan_17 (hr := by simp only [v_Ct_isMan, if_neg q1, if_pos q2]) 
    · refine bCt_isMan_12 (k := ?_)
      exact bCt_isMan_17 (hr := by simp only [v_Ct_isMan, if_neg q1, if_neg q2]) 
theorem z_Ct_isMan (w : MW) (a0 : Nat) (x1 : Int32) : v_Ct_isMan w a0 x1 = 0 ∨ v_Ct_isMan w a0 x1 = 1 := by
  unfold v_Ct_isMan
  repeat' split
  all_goals first | exact Or.inl rfl | exact Or.inr rfl
def v_Ct_isPlace (w : MW) (a0 : Nat) (x1 : Int32) : Int32 := if x1 < 0 then 0 else if (w.1 a0 3) ≤ x1 then 0 else 1
set_option maxHeartbeats 4000000 in
theorem c_Ct_isPlace {d : Nat} (w : MW) (a0 : Nat) (x1 : Int32) (c0 : isCt a0) : Ct d mCt_isPlace [.ref a0, .int x1] w (some (.int (v_Ct_isPlace w a0 x1))) w := by
  refine eCt_isPlace ?_
  refine bCt_isPlace_0 (kt := fun q1 => ?_) (kf := fun q1 => ?_)
  · refine bCt_isPlace_16 (k := ?_)
    exact bCt_isPlace_17 (hr := by simp only [v_Ct_isPlace, if_pos q1]) 
  · refine bCt_isPlace_4 (h1 := ct_g3 c0) (kt := fun q2 => ?_) (kf := fun q2 => ?_)
    · refine bCt_isPlace_16 (k := ?_)
      exact bCt_isPlace_17 (hr := by simp only [v_Ct_isPlace, if_neg q1, if_pos q2]) 
    · refine bCt_isPlace_12 (k := ?_)
      exact bCt_isPlace_17 (hr := by simp only [v_Ct_isPlace, if_neg q1, if_neg q2]) 
theorem z_Ct_isPlace (w : MW) (a0 : Nat) (x1 : Int32) : v_Ct_isPlace w a0 x1 = 0 ∨ v_Ct_isPlace w a0 x1 = 1 := by
  unfold v_Ct_isPlace
  repeat' split
  all_goals first | exact Or.inl rfl | exact Or.inr rfl
def v_Ct_isSet (w : MW) (a0 : Nat) (x1 : Int32) : Int32 := if (ush x1 (w.1 a0 1)) = 0 then 1 else 0
set_option maxHeartbeats 4000000 in
theorem c_Ct_isSet {d : Nat} (w : MW) (a0 : Nat) (x1 : Int32) (c0 : isCt a0) : Ct d mCt_isSet [.ref a0, .int x1] w (some (.int (v_Ct_isSet w a0 x1))) w := by
  refine eCt_isSet ?_
  refine bCt_isSet_0 (h1 := ct_g1 c0) (kt := fun q1 => ?_) (kf := fun q1 => ?_)
  · refine bCt_isSet_13 (k := ?_)
    exact bCt_isSet_14 (hr := by simp only [v_Ct_isSet, if_neg q1]) 
  · refine bCt_isSet_9 (k := ?_)
    exact bCt_isSet_14 (hr := by simp only [v_Ct_isSet, if_pos q1]) 
theorem z_Ct_isSet (w : MW) (a0 : Nat) (x1 : Int32) : v_Ct_isSet w a0 x1 = 0 ∨ v_Ct_isSet w a0 x1 = 1 := by
  unfold v_Ct_isSet
  repeat' split
  all_goals first | exact Or.inl rfl | exact Or.inr rfl
def u_Ct_addMan (w : MW) (a0 : Nat) (x1 : Int32) (x2 : Int32) (x3 : Int32) : MW := if (w.1 a0 1) < 8 then (setI (u_Mn_begin w (a0 + 2 + (w.1 a0 1).toNatClampNeg) x1 x2 x3) a0 1 (((u_Mn_begin w (a0 + 2 + (w.1 a0 1).toNatClampNeg) x1 x2 x3).1 a0 1) + 1)) else w
set_option maxHeartbeats 4000000 in
theorem c_Ct_addMan {d : Nat} (w : MW) (a0 : Nat) (x1 : Int32) (x2 : Int32) (x3 : Int32) (c0 : isCt a0) (h1 : (w.1 a0 1) < 8 → vp_in (w.1 a0 1) 8) : Ct (d + 1) mCt_addMan [.ref a0, .int x1, .int x2, .int x3] w none (u_Ct_addMan w a0 x1 x2 x3) := by
  refine eCt_addMan ?_
  refine bCt_addMan_0 (h1 := ct_g1 c0) (kt := fun q1 => ?_) (kf := fun q1 => ?_)
  · refine bCt_addMan_10 (y1 := a0 + 1) (h1 := ct_r0 c0) (h2 := ct_g1 c0) (y2 := a0 + 2 + (w.1 a0 1).toNatClampNeg) (h3 := ct_k12 c0) (h4 := ct_l8 c0 (h1 q1)) (h5 := ct_mn c0 (h1 q1)) (h6 := mn_k (mn_of c0 (h1 q1))) (ct := c_Mn_begin (d := d) w (a0 + 2 + (w.1 a0 1).toNatClampNeg) x1 x2 x3 (mn_of c0 (h1 q1))) (k := ?_)
    exact bCt_addMan_25 (h1 := ct_g1 c0) (h2 := ct_g1 c0) (hw := by simp only [u_Ct_addMan, if_pos q1])
  · exact bCt_addMan_9 (hw := by simp only [u_Ct_addMan, if_neg q1])
def v_Ct_doMeet (w : MW) (a0 : Nat) (x1 : Int32) (x2 : Int32) : Int32 := if (v_Ct_isMan w a0 x1) = 0 then 0 else if ((ush (w.1 (a0 + 2 + x1.toNatClampNeg) 5) x2) &&& 1) = 1 then 1 else 0
set_option maxHeartbeats 4000000 in
theorem c_Ct_doMeet {d : Nat} (w : MW) (a0 : Nat) (x1 : Int32) (x2 : Int32) (c0 : isCt a0) (h1 : ¬ (v_Ct_isMan w a0 x1) = 0 → vp_in x1 8) : Ct (d + 1) mCt_doMeet [.ref a0, .int x1, .int x2] w (some (.int (v_Ct_doMeet w a0 x1 x2))) w := by
  refine eCt_doMeet ?_
  refine bCt_doMeet_0 (h1 := ct_k c0) (ct := c_Ct_isMan (d := d) w a0 x1 c0) (k := ?_)
  refine bCt_doMeet_5 (kt := fun q1 => ?_) (kf := fun q1 => ?_)
  · refine bCt_doMeet_29 (k := ?_)
    exact bCt_doMeet_30 (hr := by simp only [v_Ct_doMeet, if_pos q1]) 
  · refine bCt_doMeet_8 (y1 := a0 + 1) (h1 := ct_r0 c0) (y2 := a0 + 2 + x1.toNatClampNeg) (h2 := ct_k12 c0) (h3 := ct_l8 c0 (h1 q1)) (h4 := ct_mn c0 (h1 q1)) (h5 := mn_g (mn_of c0 (h1 q1)) 5 (by decide)) (kt := fun q2 => ?_) (kf := fun q2 => ?_)
    · refine bCt_doMeet_29 (k := ?_)
      exact bCt_doMeet_30 (hr := by simp only [v_Ct_doMeet, if_neg q1, if_neg q2]) 
    · refine bCt_doMeet_25 (k := ?_)
      exact bCt_doMeet_30 (hr := by simp only [v_Ct_doMeet, if_neg q1, if_pos q2]) 
theorem z_Ct_doMeet (w : MW) (a0 : Nat) (x1 : Int32) (x2 : Int32) : v_Ct_doMeet w a0 x1 x2 = 0 ∨ v_Ct_doMeet w a0 x1 x2 = 1 := by
  unfold v_Ct_doMeet
  repeat' split
  all_goals first | exact Or.inl rfl | exact Or.inr rfl
def u_Ct_link (w : MW) (a0 : Nat) (x1 : Int32) (x2 : Int32) (x3 : Int32) : MW := if (v_Ct_isMan w a0 x1) = 0 then w else if (v_Ct_isMan w a0 x2) = 0 then w else if x3 = 0 then (setI (setI w (a0 + 2 + x1.toNatClampNeg) 5 ((w.1 (a0 + 2 + x1.toNatClampNeg) 5) &&& (((1 : Int32) <<< (x2 &&& 31)) ^^^ (-1)))) (a0 + 2 + x2.toNatClampNeg) 5 (((setI w (a0 + 2 + x1.toNatClampNeg) 5 ((w.1 (a0 + 2 + x1.toNatClampNeg) 5) &&& (((1 : Int32) <<< (x2 &&& 31)) ^^^ (-1)))).1 (a0 + 2 + x2.toNatClampNeg) 5) &&& (((1 : Int32) <<< (x1 &&& 31)) ^^^ (-1)))) else setI (setI w (a0 + 2 + x1.toNatClampNeg) 5 ((w.1 (a0 + 2 + x1.toNatClampNeg) 5) ||| ((1 : Int32) <<< (x2 &&& 31)))) (a0 + 2 + x2.toNatClampNeg) 5 (((setI w (a0 + 2 + x1.toNatClampNeg) 5 ((w.1 (a0 + 2 + x1.toNatClampNeg) 5) ||| ((1 : Int32) <<< (x2 &&& 31)))).1 (a0 + 2 + x2.toNatClampNeg) 5) ||| ((1 : Int32) <<< (x1 &&& 31)))
set_option maxHeartbeats 4000000 in
theorem c_Ct_link {d : Nat} (w : MW) (a0 : Nat) (x1 : Int32) (x2 : Int32) (x3 : Int32) (c0 : isCt a0) (h1 : ¬ (v_Ct_isMan w a0 x1) = 0 → ¬ (v_Ct_isMan w a0 x2) = 0 → x3 = 0 → vp_in x1 8) (h2 : ¬ (v_Ct_isMan w a0 x1) = 0 → ¬ (v_Ct_isMan w a0 x2) = 0 → x3 = 0 → vp_in x2 8) (h3 : ¬ (v_Ct_isMan w a0 x1) = 0 → ¬ (v_Ct_isMan w a0 x2) = 0 → ¬ x3 = 0 → vp_in x1 8) (h4 : ¬ (v_Ct_isMan w a0 x1) = 0 → ¬ (v_Ct_isMan w a0 x2) = 0 → ¬ x3 = 0 → vp_in x2 8) : Ct (d + 1) mCt_link [.ref a0, .int x1, .int x2, .int x3] w none (u_Ct_link w a0 x1 x2 x3) := by
  refine eCt_link ?_
  refine bCt_link_0 (h1 := ct_k c0) (ct := c_Ct_isMan (d := d) w a0 x1 c0) (k := ?_)
  refine bCt_link_5 (kt := fun q1 => ?_) (kf := fun q1 => ?_)
  · exact bCt_link_16 (hw := by simp only [u_Ct_link, if_pos q1])
  · refine bCt_link_8 (h1 := ct_k c0) (ct := c_Ct_isMan (d := d) w a0 x2 c0) (k := ?_)
    refine bCt_link_13 (kt := fun q2 => ?_) (kf := fun q2 => ?_)
    · refine bCt_link_17 (kt := fun q3 => ?_) (kf := fun q3 => ?_)
      · refine bCt_link_58 (y1 := a0 + 1) (h1 := ct_r0 c0) (y2 := a0 + 2 + x1.toNatClampNeg) (h2 := ct_k12 c0) (h3 := ct_l8 c0 (h1 q1 q2 q3)) (h4 := ct_mn c0 (h1 q1 q2 q3)) (h5 := mn_g (mn_of c0 (h1 q1 q2 q3)) 5 (by decide)) (h6 := mn_g (mn_of c0 (h1 q1 q2 q3)) 5 (by decide)) (y3 := a0 + 1) (h7 := ct_r0 c0) (y4 := a0 + 2 + x2.toNatClampNeg) (h8 := ct_k12 c0) (h9 := ct_l8 c0 (h2 q1 q2 q3)) (h10 := ct_mn c0 (h2 q1 q2 q3)) (h11 := mn_g (mn_of c0 (h2 q1 q2 q3)) 5 (by decide)) (h12 := mn_g (mn_of c0 (h2 q1 q2 q3)) 5 (by decide)) (k := ?_)
        exact bCt_link_96 (hw := by simp only [u_Ct_link, if_neg q1, if_neg q2, if_pos q3])
      · refine bCt_link_21 (y1 := a0 + 1) (h1 := ct_r0 c0) (y2 := a0 + 2 + x1.toNatClampNeg) (h2 := ct_k12 c0) (h3 := ct_l8 c0 (h3 q1 q2 q3)) (h4 := ct_mn c0 (h3 q1 q2 q3)) (h5 := mn_g (mn_of c0 (h3 q1 q2 q3)) 5 (by decide)) (h6 := mn_g (mn_of c0 (h3 q1 q2 q3)) 5 (by decide)) (y3 := a0 + 1) (h7 := ct_r0 c0) (y4 := a0 + 2 + x2.toNatClampNeg) (h8 := ct_k12 c0) (h9 := ct_l8 c0 (h4 q1 q2 q3)) (h10 := ct_mn c0 (h4 q1 q2 q3)) (h11 := mn_g (mn_of c0 (h4 q1 q2 q3)) 5 (by decide)) (h12 := mn_g (mn_of c0 (h4 q1 q2 q3)) 5 (by decide)) (k := ?_)
        exact bCt_link_96 (hw := by simp only [u_Ct_link, if_neg q1, if_neg q2, if_neg q3])
    · exact bCt_link_16 (hw := by simp only [u_Ct_link, if_neg q1, if_pos q2])
def u_Ct_hushWords (w : MW) (a0 : Nat) : MW := setI w a0 3 0
set_option maxHeartbeats 4000000 in
theorem c_Ct_hushWords {d : Nat} (w : MW) (a0 : Nat) (c0 : isCt a0) : Ct d mCt_hushWords [.ref a0] w none (u_Ct_hushWords w a0) := by
  refine eCt_hushWords ?_
  exact bCt_hushWords_0 (h1 := ct_g3 c0) (hw := by simp only [u_Ct_hushWords])
def u_Ct_addWord (w : MW) (a0 : Nat) (x1 : Int32) : MW := if (w.1 a0 3) < 30 then (setI (setI w (a0 + 10) (w.1 a0 3).toNatClampNeg x1) a0 3 (((setI w (a0 + 10) (w.1 a0 3).toNatClampNeg x1).1 a0 3) + 1)) else w
set_option maxHeartbeats 4000000 in
theorem c_Ct_addWord {d : Nat} (w : MW) (a0 : Nat) (x1 : Int32) (c0 : isCt a0) (h1 : (w.1 a0 3) < 30 → vp_in (w.1 a0 3) 30) : Ct d mCt_addWord [.ref a0, .int x1] w none (u_Ct_addWord w a0 x1) := by
  refine eCt_addWord ?_
  refine bCt_addWord_0 (h1 := ct_g3 c0) (kt := fun q1 => ?_) (kf := fun q1 => ?_)
  · exact bCt_addWord_10 (y1 := a0 + 10) (h1 := ct_r2 c0) (h2 := ct_g3 c0) (h3 := ct_k10 c0) (h4 := al_in2 c0 (h1 q1)) (h5 := ct_g3 c0) (h6 := ct_g3 c0) (hw := by simp only [u_Ct_addWord, if_pos q1])
  · exact bCt_addWord_9 (hw := by simp only [u_Ct_addWord, if_neg q1])
def v_Ct_drawUpper (w : MW) (a0 : Nat) : Int32 := ush ((setI w a0 4 (((w.1 a0 4) * 1103515245) + 12345)).1 a0 4) 16
def u_Ct_drawUpper (w : MW) (a0 : Nat) : MW := setI w a0 4 (((w.1 a0 4) * 1103515245) + 12345)
set_option maxHeartbeats 4000000 in
theorem c_Ct_drawUpper {d : Nat} (w : MW) (a0 : Nat) (c0 : isCt a0) : Ct d mCt_drawUpper [.ref a0] w (some (.int (v_Ct_drawUpper w a0))) (u_Ct_drawUpper w a0) := by
  refine eCt_drawUpper ?_
  exact bCt_drawUpper_0 (h1 := ct_g4 c0) (h2 := ct_g4 c0) (h3 := ct_g4 c0) (hr := by simp only [v_Ct_drawUpper]) (hw := by simp only [u_Ct_drawUpper])
def v_Rd_itemBy (w : MW) (x0 : Int32) (x1 : Int32) : Int32 := if x0 = 109 then (if x1 = 97 then 0 else 1) else if x0 = 112 then 2 else if x0 = 119 then 3 else 4
set_option maxHeartbeats 4000000 in
theorem c_Rd_itemBy {d : Nat} (w : MW) (x0 : Int32) (x1 : Int32) : Ct d mRd_itemBy [.int x0, .int x1] w (some (.int (v_Rd_itemBy w x0 x1))) w := by
  refine eRd_itemBy ?_
  refine bRd_itemBy_0 (k109 := fun q1 => ?_) (k112 := fun q2 => ?_) (k119 := fun q3 => ?_) (kd := fun q1 q2 q3 => ?_)
  · refine bRd_itemBy_36 (kt := fun q4 => ?_) (kf := fun q4 => ?_)
    · refine bRd_itemBy_46 (k := ?_)
      exact bRd_itemBy_47 (hr := by simp [v_Rd_itemBy, q1, if_neg q4]) 
    · refine bRd_itemBy_42 (k := ?_)
      exact bRd_itemBy_47 (hr := by simp [v_Rd_itemBy, q1, if_pos q4]) 
  · exact bRd_itemBy_48 (hr := by simp [v_Rd_itemBy, q2]) 
  · exact bRd_itemBy_50 (hr := by simp [v_Rd_itemBy, q3]) 
  · exact bRd_itemBy_52 (hr := by simp [v_Rd_itemBy, q1, q2, q3]) 
def v_Rd_wordOf (w : MW) (x0 : Int32) : Nat := if x0 = 0 then 84 else if x0 = 1 then 85 else if x0 = 2 then 86 else if x0 = 3 then 87 else 88
set_option maxHeartbeats 4000000 in
theorem c_Rd_wordOf {d : Nat} (w : MW) (x0 : Int32) : Ct d mRd_wordOf [.int x0] w (some (.ref (v_Rd_wordOf w x0))) w := by
  refine eRd_wordOf ?_
  refine bRd_wordOf_0 (k0 := fun q1 => ?_) (k1 := fun q2 => ?_) (k2 := fun q3 => ?_) (k3 := fun q4 => ?_) (kd := fun q1 q2 q3 q4 => ?_)
  · exact bRd_wordOf_32 (hr := by simp [v_Rd_wordOf, q1]) 
  · exact bRd_wordOf_35 (hr := by simp [v_Rd_wordOf, q2]) 
  · exact bRd_wordOf_38 (hr := by simp [v_Rd_wordOf, q3]) 
  · exact bRd_wordOf_41 (hr := by simp [v_Rd_wordOf, q4]) 
  · exact bRd_wordOf_44 (hr := by simp [v_Rd_wordOf, q1, q2, q3, q4]) 
theorem t_Rd_wordOf (w : MW) (x : Int32) : 84 ≤ v_Rd_wordOf w x ∧ v_Rd_wordOf w x < 89 := by
  unfold v_Rd_wordOf
  repeat' split
  all_goals decide
def v_Rd_isDigit (w : MW) (x0 : Int32) : Int32 := if x0 < 48 then 0 else if 57 < x0 then 0 else 1
set_option maxHeartbeats 4000000 in
theorem c_Rd_isDigit {d : Nat} (w : MW) (x0 : Int32) : Ct d mRd_isDigit [.int x0] w (some (.int (v_Rd_isDigit w x0))) w := by
  refine eRd_isDigit ?_
  refine bRd_isDigit_0 (kt := fun q1 => ?_) (kf := fun q1 => ?_)
  · refine bRd_isDigit_16 (k := ?_)
    exact bRd_isDigit_17 (hr := by simp only [v_Rd_isDigit, if_pos q1]) 
  · refine bRd_isDigit_6 (kt := fun q2 => ?_) (kf := fun q2 => ?_)
    · refine bRd_isDigit_16 (k := ?_)
      exact bRd_isDigit_17 (hr := by simp only [v_Rd_isDigit, if_neg q1, if_pos q2]) 
    · refine bRd_isDigit_12 (k := ?_)
      exact bRd_isDigit_17 (hr := by simp only [v_Rd_isDigit, if_neg q1, if_neg q2]) 
theorem z_Rd_isDigit (w : MW) (x0 : Int32) : v_Rd_isDigit w x0 = 0 ∨ v_Rd_isDigit w x0 = 1 := by
  unfold v_Rd_isDigit
  repeat' split
  all_goals first | exact Or.inl rfl | exact Or.inr rfl
def u_Rd_take (w : MW) (a1 : Nat) (x2 : Int32) : MW := if (v_Sh_has w a1 (w.1 52 1)) = 0 then (setI w 52 3 (w.1 52 1)) else if (v_Sh_asInt w a1 (w.1 52 1)) = x2 then (setI w 52 1 ((w.1 52 1) + 1)) else setI w 52 3 (w.1 52 1)
set_option maxHeartbeats 4000000 in
theorem c_Rd_take {d : Nat} (w : MW) (a1 : Nat) (x2 : Int32) (c1 : isSh a1) (h1 : ¬ (v_Sh_has w a1 (w.1 52 1)) = 0 → ¬ (w.1 52 1) < 0 → ¬ (w.1 a1 1) ≤ (w.1 52 1) → vp_in (w.1 52 1) 160) : Ct (d + 1) mRd_take [.ref 52, .ref a1, .int x2] w none (u_Rd_take w a1 x2) := by
  refine eRd_take ?_
  refine bRd_take_0 (h2 := sh_k c1) (ct := c_Sh_has (d := d) w a1 (w.1 52 1) c1) (k := ?_)
  refine bRd_take_8 (kt := fun q1 => ?_) (kf := fun q1 => ?_)
  · refine bRd_take_36 (k := ?_)
    exact bRd_take_44 (hw := by simp only [u_Rd_take, if_pos q1])
  · refine bRd_take_11 (h2 := sh_k c1) (ct := c_Sh_asInt (d := d) w a1 (w.1 52 1) c1 (h1 q1)) (k := ?_)
    refine bRd_take_19 (kt := fun q2 => ?_) (kf := fun q2 => ?_)
    · refine bRd_take_36 (k := ?_)
      exact bRd_take_44 (hw := by simp only [u_Rd_take, if_neg q1, if_neg q2])
    · refine bRd_take_23 (k := ?_)
      exact bRd_take_44 (hw := by simp only [u_Rd_take, if_neg q1, if_pos q2])
def v_X_isShelf (w : MW) (x0 : Int32) : Int32 := if x0 < 0 then 0 else if 8 ≤ x0 then 0 else 1
set_option maxHeartbeats 4000000 in
theorem c_X_isShelf {d : Nat} (w : MW) (x0 : Int32) : Ct d mX_isShelf [.int x0] w (some (.int (v_X_isShelf w x0))) w := by
  refine eX_isShelf ?_
  refine bX_isShelf_0 (kt := fun q1 => ?_) (kf := fun q1 => ?_)
  · refine bX_isShelf_14 (k := ?_)
    exact bX_isShelf_15 (hr := by simp only [v_X_isShelf, if_pos q1]) 
  · refine bX_isShelf_4 (kt := fun q2 => ?_) (kf := fun q2 => ?_)
    · refine bX_isShelf_14 (k := ?_)
      exact bX_isShelf_15 (hr := by simp only [v_X_isShelf, if_neg q1, if_pos q2]) 
    · refine bX_isShelf_10 (k := ?_)
      exact bX_isShelf_15 (hr := by simp only [v_X_isShelf, if_neg q1, if_neg q2]) 
theorem z_X_isShelf (w : MW) (x0 : Int32) : v_X_isShelf w x0 = 0 ∨ v_X_isShelf w x0 = 1 := by
  unfold v_X_isShelf
  repeat' split
  all_goals first | exact Or.inl rfl | exact Or.inr rfl
theorem xsh {w : MW} {x : Int32} (h : ¬ v_X_isShelf w x = 0) : vp_in x 8 := by
  unfold v_X_isShelf at h
  split at h
  · exact absurd rfl h
  split at h
  · exact absurd rfl h
  rename_i a b
  rw [vp_in_iff]
  have a := Int32.not_lt.mp a
  have b := Int32.not_le.mp b
  rw [Int32.le_iff_toInt_le] at a
  rw [Int32.lt_iff_toInt_lt] at b
  exact ⟨a, b⟩
def v_X_isKind (w : MW) (x0 : Int32) : Int32 := if x0 < 0 then 0 else if 7 ≤ x0 then 0 else 1
set_option maxHeartbeats 4000000 in
theorem c_X_isKind {d : Nat} (w : MW) (x0 : Int32) : Ct d mX_isKind [.int x0] w (some (.int (v_X_isKind w x0))) w := by
  refine eX_isKind ?_
  refine bX_isKind_0 (kt := fun q1 => ?_) (kf := fun q1 => ?_)
  · refine bX_isKind_14 (k := ?_)
    exact bX_isKind_15 (hr := by simp only [v_X_isKind, if_pos q1]) 
  · refine bX_isKind_4 (kt := fun q2 => ?_) (kf := fun q2 => ?_)
    · refine bX_isKind_14 (k := ?_)
      exact bX_isKind_15 (hr := by simp only [v_X_isKind, if_neg q1, if_pos q2]) 
    · refine bX_isKind_10 (k := ?_)
      exact bX_isKind_15 (hr := by simp only [v_X_isKind, if_neg q1, if_neg q2]) 
theorem z_X_isKind (w : MW) (x0 : Int32) : v_X_isKind w x0 = 0 ∨ v_X_isKind w x0 = 1 := by
  unfold v_X_isKind
  repeat' split
  all_goals first | exact Or.inl rfl | exact Or.inr rfl
def v_X_isRounds (w : MW) (x0 : Int32) : Int32 := if x0 < 0 then 0 else if 9 < x0 then 0 else 1
set_option maxHeartbeats 4000000 in
theorem c_X_isRounds {d : Nat} (w : MW) (x0 : Int32) : Ct d mX_isRounds [.int x0] w (some (.int (v_X_isRounds w x0))) w := by
  refine eX_isRounds ?_
  refine bX_isRounds_0 (kt := fun q1 => ?_) (kf := fun q1 => ?_)
  · refine bX_isRounds_14 (k := ?_)
    exact bX_isRounds_15 (hr := by simp only [v_X_isRounds, if_pos q1]) 
  · refine bX_isRounds_4 (kt := fun q2 => ?_) (kf := fun q2 => ?_)
    · refine bX_isRounds_14 (k := ?_)
      exact bX_isRounds_15 (hr := by simp only [v_X_isRounds, if_neg q1, if_pos q2]) 
    · refine bX_isRounds_10 (k := ?_)
      exact bX_isRounds_15 (hr := by simp only [v_X_isRounds, if_neg q1, if_neg q2]) 
theorem z_X_isRounds (w : MW) (x0 : Int32) : v_X_isRounds w x0 = 0 ∨ v_X_isRounds w x0 = 1 := by
  unfold v_X_isRounds
  repeat' split
  all_goals first | exact Or.inl rfl | exact Or.inr rfl
def v_X_maySpeak (w : MW) (x0 : Int32) : Int32 := if x0 < (-1) then 0 else if 2000 ≤ x0 then 0 else 1
set_option maxHeartbeats 4000000 in
theorem c_X_maySpeak {d : Nat} (w : MW) (x0 : Int32) : Ct d mX_maySpeak [.int x0] w (some (.int (v_X_maySpeak w x0))) w := by
  refine eX_maySpeak ?_
  refine bX_maySpeak_0 (kt := fun q1 => ?_) (kf := fun q1 => ?_)
  · refine bX_maySpeak_16 (k := ?_)
    exact bX_maySpeak_17 (hr := by simp only [v_X_maySpeak, if_pos q1]) 
  · refine bX_maySpeak_5 (kt := fun q2 => ?_) (kf := fun q2 => ?_)
    · refine bX_maySpeak_16 (k := ?_)
      exact bX_maySpeak_17 (hr := by simp only [v_X_maySpeak, if_neg q1, if_pos q2]) 
    · refine bX_maySpeak_12 (k := ?_)
      exact bX_maySpeak_17 (hr := by simp only [v_X_maySpeak, if_neg q1, if_neg q2]) 
theorem z_X_maySpeak (w : MW) (x0 : Int32) : v_X_maySpeak w x0 = 0 ∨ v_X_maySpeak w x0 = 1 := by
  unfold v_X_maySpeak
  repeat' split
  all_goals first | exact Or.inl rfl | exact Or.inr rfl
def v_X_ownLength (w : MW) (x0 : Int32) : Int32 := if x0 = (-1) then 0 else if x0 < 1000 then 3 else 4
set_option maxHeartbeats 4000000 in
theorem c_X_ownLength {d : Nat} (w : MW) (x0 : Int32) : Ct d mX_ownLength [.int x0] w (some (.int (v_X_ownLength w x0))) w := by
  refine eX_ownLength ?_
  refine bX_ownLength_0 (kt := fun q1 => ?_) (kf := fun q1 => ?_)
  · refine bX_ownLength_7 (kt := fun q2 => ?_) (kf := fun q2 => ?_)
    · refine bX_ownLength_18 (k := ?_)
      exact bX_ownLength_19 (hr := by simp only [v_X_ownLength, if_neg q1, if_pos q2]) 
    · refine bX_ownLength_14 (k := ?_)
      exact bX_ownLength_19 (hr := by simp only [v_X_ownLength, if_neg q1, if_neg q2]) 
  · exact bX_ownLength_5 (hr := by simp only [v_X_ownLength, if_pos q1]) 
def v_X_ownWord (w : MW) (x0 : Int32) (x1 : Int32) : Int32 := if x1 < (v_X_ownLength w x0) then (if x1 = 0 then ((4 * ((x0 / 100) - (x0 / 100) / 10 * 10)) + 0) else if x1 = 1 then ((4 * ((x0 / 10) - (x0 / 10) / 10 * 10)) + 1) else if x1 = ((v_X_ownLength w x0) - 1) then ((4 * (x0 - x0 / 10 * 10)) + 0) else 2) else 3
set_option maxHeartbeats 4000000 in
theorem c_X_ownWord {d : Nat} (w : MW) (x0 : Int32) (x1 : Int32) : Ct (d + 1) mX_ownWord [.int x0, .int x1] w (some (.int (v_X_ownWord w x0 x1))) w := by
  refine eX_ownWord ?_
  refine bX_ownWord_0 (ct := c_X_ownLength (d := d) w x0) (k := ?_)
  refine bX_ownWord_4 (kt := fun q1 => ?_) (kf := fun q1 => ?_)
  · refine bX_ownWord_12 (kt := fun q2 => ?_) (kf := fun q2 => ?_)
    · refine bX_ownWord_28 (kt := fun q3 => ?_) (kf := fun q3 => ?_)
      · refine bX_ownWord_45 (kt := fun q4 => ?_) (kf := fun q4 => ?_)
        · refine bX_ownWord_63 (k := ?_)
          exact bX_ownWord_64 (hr := by simp only [v_X_ownWord, if_pos q1, if_neg q2, if_neg q3, if_neg q4]) 
        · refine bX_ownWord_52 (k := ?_)
          exact bX_ownWord_64 (hr := by simp only [v_X_ownWord, if_pos q1, if_neg q2, if_neg q3, if_pos q4]) 
      · exact bX_ownWord_33 (hr := by simp only [v_X_ownWord, if_pos q1, if_neg q2, if_pos q3]) 
    · exact bX_ownWord_16 (hr := by simp only [v_X_ownWord, if_pos q1, if_pos q2]) 
  · exact bX_ownWord_10 (hr := by simp only [v_X_ownWord, if_neg q1]) 
def v_X_refuse (w : MW) (x1 : Int32) : Int32 := x1
def u_X_refuse (w : MW) (x1 : Int32) : MW := if (-1) < x1 then w else if x1 < (-7) then w else setI w 51 (-x1).toNatClampNeg ((w.1 51 (-x1).toNatClampNeg) + 1)
set_option maxHeartbeats 4000000 in
theorem c_X_refuse {d : Nat} (w : MW) (x1 : Int32) : Ct d mX_refuse [.ref 0, .int x1] w (some (.int (v_X_refuse w x1))) (u_X_refuse w x1) := by
  refine eX_refuse ?_
  refine bX_refuse_0 (kt := fun q1 => ?_) (kf := fun q1 => ?_)
  · exact bX_refuse_22 (hr := by simp only [v_X_refuse, if_pos q1]) (hw := by simp only [u_X_refuse, if_pos q1])
  · refine bX_refuse_5 (kt := fun q2 => ?_) (kf := fun q2 => ?_)
    · exact bX_refuse_22 (hr := by simp only [v_X_refuse, if_neg q1, if_pos q2]) (hw := by simp only [u_X_refuse, if_neg q1, if_pos q2])
    · refine bX_refuse_11 (y1 := 51) (h3 := (neg8 q1 q2)) (h5 := (neg8 q1 q2)) (k := ?_)
      exact bX_refuse_22 (hr := by simp only [v_X_refuse, if_neg q1, if_neg q2]) (hw := by simp only [u_X_refuse, if_neg q1, if_neg q2])
def v_X_refuseFar (w : MW) (x1 : Int32) : Int32 := (v_X_refuse w x1) - 10
def u_X_refuseFar (w : MW) (x1 : Int32) : MW := u_X_refuse w x1
set_option maxHeartbeats 4000000 in
theorem c_X_refuseFar {d : Nat} (w : MW) (x1 : Int32) : Ct (d + 1) mX_refuseFar [.ref 0, .int x1] w (some (.int (v_X_refuseFar w x1))) (u_X_refuseFar w x1) := by
  refine eX_refuseFar ?_
  refine bX_refuseFar_0 (ct := c_X_refuse (d := d) w x1) (k := ?_)
  exact bX_refuseFar_5 (hr := by simp only [v_X_refuseFar]) (hw := by simp only [u_X_refuseFar])
def v_X_rowRefusal (w : MW) (x1 : Int32) : Int32 := if (v_X_isShelf w x1) = 0 then (-1) else if (v_Sh_isMan w (35 + 2 * x1.toNatClampNeg)) = 0 then (if (v_Sh_isRow w (35 + 2 * x1.toNatClampNeg)) = 0 then (-3) else 0) else (-2)
set_option maxHeartbeats 4000000 in
theorem c_X_rowRefusal {d : Nat} (w : MW) (x1 : Int32) : Ct (d + 1) mX_rowRefusal [.ref 0, .int x1] w (some (.int (v_X_rowRefusal w x1))) w := by
  refine eX_rowRefusal ?_
  refine bX_rowRefusal_0 (ct := c_X_isShelf (d := d) w x1) (k := ?_)
  refine bX_rowRefusal_4 (kt := fun q1 => ?_) (kf := fun q1 => ?_)
  · refine bX_rowRefusal_9 (y1 := 34) (y2 := 35 + 2 * x1.toNatClampNeg) (h3 := (xsh q1)) (h4 := shr_sh (xsh q1)) (h5 := sh_k (sh_of (xsh q1))) (ct := c_Sh_isMan (d := d) w (35 + 2 * x1.toNatClampNeg) (sh_of (xsh q1))) (k := ?_)
    refine bX_rowRefusal_18 (kt := fun q2 => ?_) (kf := fun q2 => ?_)
    · refine bX_rowRefusal_24 (y1 := 34) (y2 := 35 + 2 * x1.toNatClampNeg) (h3 := (xsh q1)) (h4 := shr_sh (xsh q1)) (h5 := sh_k (sh_of (xsh q1))) (ct := c_Sh_isRow (d := d) w (35 + 2 * x1.toNatClampNeg) (sh_of (xsh q1))) (k := ?_)
      refine bX_rowRefusal_33 (kt := fun q3 => ?_) (kf := fun q3 => ?_)
      · refine bX_rowRefusal_40 (k := ?_)
        exact bX_rowRefusal_42 (hr := by simp only [v_X_rowRefusal, if_neg q1, if_pos q2, if_pos q3]) 
      · refine bX_rowRefusal_36 (k := ?_)
        exact bX_rowRefusal_42 (hr := by simp only [v_X_rowRefusal, if_neg q1, if_pos q2, if_neg q3]) 
    · exact bX_rowRefusal_21 (hr := by simp only [v_X_rowRefusal, if_neg q1, if_neg q2]) 
  · exact bX_rowRefusal_7 (hr := by simp only [v_X_rowRefusal, if_pos q1]) 
def v_X_tellRefusal (w : MW) (x1 : Int32) (x2 : Int32) : Int32 := if (v_X_rowRefusal w x1) = 0 then (if 0 ≤ x2 then (if x2 ≤ (w.1 (35 + 2 * x1.toNatClampNeg) 1) then 0 else (-5)) else (-4)) else v_X_rowRefusal w x1
set_option maxHeartbeats 4000000 in
theorem c_X_tellRefusal {d : Nat} (w : MW) (x1 : Int32) (x2 : Int32) (h1 : (v_X_rowRefusal w x1) = 0 → 0 ≤ x2 → vp_in x1 8) : Ct (d + 2) mX_tellRefusal [.ref 0, .int x1, .int x2] w (some (.int (v_X_tellRefusal w x1 x2))) w := by
  refine eX_tellRefusal ?_
  refine bX_tellRefusal_0 (ct := c_X_rowRefusal (d := d) w x1) (k := ?_)
  refine bX_tellRefusal_5 (kt := fun q1 => ?_) (kf := fun q1 => ?_)
  · refine bX_tellRefusal_12 (kt := fun q2 => ?_) (kf := fun q2 => ?_)
    · refine bX_tellRefusal_19 (y1 := 34) (y2 := 35 + 2 * x1.toNatClampNeg) (h3 := (h1 q1 q2)) (h4 := shr_sh (h1 q1 q2)) (h5 := sh_g1 (sh_of (h1 q1 q2))) (kt := fun q3 => ?_) (kf := fun q3 => ?_)
      · refine bX_tellRefusal_37 (k := ?_)
        exact bX_tellRefusal_38 (hr := by simp only [v_X_tellRefusal, if_pos q1, if_pos q2, if_pos q3]) 
      · refine bX_tellRefusal_32 (k := ?_)
        exact bX_tellRefusal_38 (hr := by simp only [v_X_tellRefusal, if_pos q1, if_pos q2, if_neg q3]) 
    · exact bX_tellRefusal_16 (hr := by simp only [v_X_tellRefusal, if_pos q1, if_neg q2]) 
  · exact bX_tellRefusal_10 (hr := by simp only [v_X_tellRefusal, if_neg q1]) 
def v_M_within (w : MW) (x0 : Int32) (x1 : Int32) (x2 : Int32) : Int32 := if x0 < x1 then 0 else if x2 < x0 then 0 else 1
set_option maxHeartbeats 4000000 in
theorem c_M_within {d : Nat} (w : MW) (x0 : Int32) (x1 : Int32) (x2 : Int32) : Ct d mM_within [.int x0, .int x1, .int x2] w (some (.int (v_M_within w x0 x1 x2))) w := by
  refine eM_within ?_
  refine bM_within_0 (kt := fun q1 => ?_) (kf := fun q1 => ?_)
  · refine bM_within_14 (k := ?_)
    exact bM_within_15 (hr := by simp only [v_M_within, if_pos q1]) 
  · refine bM_within_5 (kt := fun q2 => ?_) (kf := fun q2 => ?_)
    · refine bM_within_14 (k := ?_)
      exact bM_within_15 (hr := by simp only [v_M_within, if_neg q1, if_pos q2]) 
    · refine bM_within_10 (k := ?_)
      exact bM_within_15 (hr := by simp only [v_M_within, if_neg q1, if_neg q2]) 
theorem z_M_within (w : MW) (x0 : Int32) (x1 : Int32) (x2 : Int32) : v_M_within w x0 x1 x2 = 0 ∨ v_M_within w x0 x1 x2 = 1 := by
  unfold v_M_within
  repeat' split
  all_goals first | exact Or.inl rfl | exact Or.inr rfl
theorem mwin {w : MW} {x l u : Int32} (h : ¬ v_M_within w x l u = 0) : l.toInt ≤ x.toInt ∧ x.toInt ≤ u.toInt := by
  unfold v_M_within at h
  split at h
  · exact absurd rfl h
  split at h
  · exact absurd rfl h
  rename_i a b
  have a := Int32.not_lt.mp a
  have b := Int32.not_lt.mp b
  rw [Int32.le_iff_toInt_le] at a b
  exact ⟨a, b⟩
theorem mw8 {w : MW} {x : Int32} (h : ¬ v_M_within w x 0 7 = 0) : vp_in x 8 := by
  have ⟨a, b⟩ := mwin h
  rw [vp_in_iff]
  have e0 : (0 : Int32).toInt = 0 := by decide
  have e7 : (7 : Int32).toInt = 7 := by decide
  omega
def v_M_no (w : MW) (x1 : Int32) : Int32 := x1
def u_M_no (w : MW) (x1 : Int32) : MW := setI w 73 (-x1).toNatClampNeg ((w.1 73 (-x1).toNatClampNeg) + 1)
set_option maxHeartbeats 4000000 in
theorem c_M_no {d : Nat} (w : MW) (x1 : Int32) (h1 : vp_in (-x1) 8) : Ct d mM_no [.ref 62, .int x1] w (some (.int (v_M_no w x1))) (u_M_no w x1) := by
  refine eM_no ?_
  exact bM_no_0 (y1 := 73) (h3 := (h1)) (h5 := (h1)) (hr := by simp only [v_M_no]) (hw := by simp only [u_M_no])
def v_M_no10 (w : MW) (x1 : Int32) : Int32 := (v_M_no w x1) - 10
def u_M_no10 (w : MW) (x1 : Int32) : MW := u_M_no w x1
set_option maxHeartbeats 4000000 in
theorem c_M_no10 {d : Nat} (w : MW) (x1 : Int32) (h1 : vp_in (-x1) 8) : Ct (d + 1) mM_no10 [.ref 62, .int x1] w (some (.int (v_M_no10 w x1))) (u_M_no10 w x1) := by
  refine eM_no10 ?_
  refine bM_no10_0 (ct := c_M_no (d := d) w x1 (h1)) (k := ?_)
  exact bM_no10_5 (hr := by simp only [v_M_no10]) (hw := by simp only [u_M_no10])
def v_M_has (w : MW) (x0 : Int32) (x1 : Int32) : Int32 := if ((x0 >>> (x1 &&& 31)) &&& 1) = 1 then 1 else 0
set_option maxHeartbeats 4000000 in
theorem c_M_has {d : Nat} (w : MW) (x0 : Int32) (x1 : Int32) : Ct d mM_has [.int x0, .int x1] w (some (.int (v_M_has w x0 x1))) w := by
  refine eM_has ?_
  refine bM_has_0 (kt := fun q1 => ?_) (kf := fun q1 => ?_)
  · refine bM_has_13 (k := ?_)
    exact bM_has_14 (hr := by simp only [v_M_has, if_neg q1]) 
  · refine bM_has_9 (k := ?_)
    exact bM_has_14 (hr := by simp only [v_M_has, if_pos q1]) 
theorem z_M_has (w : MW) (x0 : Int32) (x1 : Int32) : v_M_has w x0 x1 = 0 ∨ v_M_has w x0 x1 = 1 := by
  unfold v_M_has
  repeat' split
  all_goals first | exact Or.inl rfl | exact Or.inr rfl
def v_M_isMan (w : MW) (x1 : Int32) : Int32 := v_M_within w x1 0 ((w.1 62 3) - 1)
set_option maxHeartbeats 4000000 in
theorem c_M_isMan {d : Nat} (w : MW) (x1 : Int32) : Ct (d + 1) mM_isMan [.ref 62, .int x1] w (some (.int (v_M_isMan w x1))) w := by
  refine eM_isMan ?_
  refine bM_isMan_0 (ct := c_M_within (d := d) w x1 0 ((w.1 62 3) - 1)) (k := ?_)
  exact bM_isMan_11 (hn := nz (z_M_within w x1 0 ((w.1 62 3) - 1))) (hr := by simp only [v_M_isMan]) 
theorem z_M_isMan (w : MW) (x1 : Int32) : v_M_isMan w x1 = 0 ∨ v_M_isMan w x1 = 1 := by
  unfold v_M_isMan
  repeat' split
  all_goals first | exact Or.inl rfl | exact Or.inr rfl | exact z_M_within w x1 0 ((w.1 62 3) - 1)
def v_M_isWord (w : MW) (x0 : Int32) : Int32 := v_M_within w x0 0 39
set_option maxHeartbeats 4000000 in
theorem c_M_isWord {d : Nat} (w : MW) (x0 : Int32) : Ct (d + 1) mM_isWord [.int x0] w (some (.int (v_M_isWord w x0))) w := by
  refine eM_isWord ?_
  refine bM_isWord_0 (ct := c_M_within (d := d) w x0 0 39) (k := ?_)
  exact bM_isWord_7 (hn := nz (z_M_within w x0 0 39)) (hr := by simp only [v_M_isWord]) 
theorem z_M_isWord (w : MW) (x0 : Int32) : v_M_isWord w x0 = 0 ∨ v_M_isWord w x0 = 1 := by
  unfold v_M_isWord
  repeat' split
  all_goals first | exact Or.inl rfl | exact Or.inr rfl | exact z_M_within w x0 0 39
def v_M_isRounds (w : MW) (x0 : Int32) : Int32 := v_M_within w x0 0 9
set_option maxHeartbeats 4000000 in
theorem c_M_isRounds {d : Nat} (w : MW) (x0 : Int32) : Ct (d + 1) mM_isRounds [.int x0] w (some (.int (v_M_isRounds w x0))) w := by
  refine eM_isRounds ?_
  refine bM_isRounds_0 (ct := c_M_within (d := d) w x0 0 9) (k := ?_)
  exact bM_isRounds_7 (hn := nz (z_M_within w x0 0 9)) (hr := by simp only [v_M_isRounds]) 
theorem z_M_isRounds (w : MW) (x0 : Int32) : v_M_isRounds w x0 = 0 ∨ v_M_isRounds w x0 = 1 := by
  unfold v_M_isRounds
  repeat' split
  all_goals first | exact Or.inl rfl | exact Or.inr rfl | exact z_M_within w x0 0 9
def v_M_isRow (w : MW) (x1 : Int32) : Int32 := if (w.1 63 x1.toNatClampNeg) < 100 then 0 else 1
set_option maxHeartbeats 4000000 in
theorem c_M_isRow {d : Nat} (w : MW) (x1 : Int32) (h1 : vp_in x1 8) : Ct d mM_isRow [.ref 62, .int x1] w (some (.int (v_M_isRow w x1))) w := by
  refine eM_isRow ?_
  refine bM_isRow_0 (y1 := 63) (h3 := (h1)) (kt := fun q1 => ?_) (kf := fun q1 => ?_)
  · refine bM_isRow_15 (k := ?_)
    exact bM_isRow_16 (hr := by simp only [v_M_isRow, if_pos q1]) 
  · refine bM_isRow_11 (k := ?_)
    exact bM_isRow_16 (hr := by simp only [v_M_isRow, if_neg q1]) 
theorem z_M_isRow (w : MW) (x1 : Int32) : v_M_isRow w x1 = 0 ∨ v_M_isRow w x1 = 1 := by
  unfold v_M_isRow
  repeat' split
  all_goals first | exact Or.inl rfl | exact Or.inr rfl
def v_M_noRow (w : MW) (x1 : Int32) : Int32 := if (v_M_within w x1 0 7) = 0 then (-1) else if (w.1 63 x1.toNatClampNeg) < 0 then (if 0 ≤ (w.1 63 x1.toNatClampNeg) then 0 else (-3)) else if (v_M_isRow w x1) = 0 then (-2) else if 0 ≤ (w.1 63 x1.toNatClampNeg) then 0 else (-3)
set_option maxHeartbeats 4000000 in
theorem c_M_noRow {d : Nat} (w : MW) (x1 : Int32) : Ct (d + 1) mM_noRow [.ref 62, .int x1] w (some (.int (v_M_noRow w x1))) w := by
  refine eM_noRow ?_
  refine bM_noRow_0 (ct := c_M_within (d := d) w x1 0 7) (k := ?_)
  refine bM_noRow_7 (kt := fun q1 => ?_) (kf := fun q1 => ?_)
  · refine bM_noRow_12 (y1 := 63) (h3 := (mw8 q1)) (kt := fun q2 => ?_) (kf := fun q2 => ?_)
    · refine bM_noRow_32 (y1 := 63) (h3 := (mw8 q1)) (kt := fun q3 => ?_) (kf := fun q3 => ?_)
      · refine bM_noRow_46 (k := ?_)
        exact bM_noRow_47 (hr := by simp only [v_M_noRow, if_neg q1, if_pos q2, if_pos q3]) 
      · refine bM_noRow_41 (k := ?_)
        exact bM_noRow_47 (hr := by simp only [v_M_noRow, if_neg q1, if_pos q2, if_neg q3]) 
    · refine bM_noRow_21 (ct := c_M_isRow (d := d) w x1 (mw8 q1)) (k := ?_)
      refine bM_noRow_26 (kt := fun q4 => ?_) (kf := fun q4 => ?_)
      · refine bM_noRow_32 (y1 := 63) (h3 := (mw8 q1)) (kt := fun q5 => ?_) (kf := fun q5 => ?_)
        · refine bM_noRow_46 (k := ?_)
          exact bM_noRow_47 (hr := by simp only [v_M_noRow, if_neg q1, if_neg q2, if_neg q4, if_pos q5]) 
        · refine bM_noRow_41 (k := ?_)
          exact bM_noRow_47 (hr := by simp only [v_M_noRow, if_neg q1, if_neg q2, if_neg q4, if_neg q5]) 
      · exact bM_noRow_29 (hr := by simp only [v_M_noRow, if_neg q1, if_neg q2, if_pos q4]) 
  · exact bM_noRow_10 (hr := by simp only [v_M_noRow, if_pos q1]) 
theorem no8_M_noRow (w : MW) (x : Int32) : vp_in (-(v_M_noRow w x)) 8 := by
  unfold v_M_noRow
  repeat' split
  all_goals exact vpd (by decide)
def v_M_above (w : MW) (x0 : Int32) : Int32 := if x0 = 3 then 1 else if x0 = 5 then 2 else if x0 = 6 then 4 else 0
set_option maxHeartbeats 4000000 in
theorem c_M_above {d : Nat} (w : MW) (x0 : Int32) : Ct d mM_above [.int x0] w (some (.int (v_M_above w x0))) w := by
  refine eM_above ?_
  refine bM_above_0 (kt := fun q1 => ?_) (kf := fun q1 => ?_)
  · refine bM_above_9 (kt := fun q2 => ?_) (kf := fun q2 => ?_)
    · refine bM_above_18 (kt := fun q3 => ?_) (kf := fun q3 => ?_)
      · refine bM_above_28 (k := ?_)
        exact bM_above_29 (hr := by simp only [v_M_above, if_neg q1, if_neg q2, if_neg q3]) 
      · refine bM_above_24 (k := ?_)
        exact bM_above_29 (hr := by simp only [v_M_above, if_neg q1, if_neg q2, if_pos q3]) 
    · refine bM_above_14 (k := ?_)
      exact bM_above_29 (hr := by simp only [v_M_above, if_neg q1, if_pos q2]) 
  · refine bM_above_5 (k := ?_)
    exact bM_above_29 (hr := by simp only [v_M_above, if_pos q1]) 
def u_M_meeting (w : MW) (x1 : Int32) (x2 : Int32) (x3 : Int32) : MW := if x3 = 0 then (setI (setI w 71 x1.toNatClampNeg (((w.1 71 x1.toNatClampNeg) &&& (((1 : Int32) <<< (x2 &&& 31)) ^^^ (-1))) ||| 0)) 71 x2.toNatClampNeg ((((setI w 71 x1.toNatClampNeg (((w.1 71 x1.toNatClampNeg) &&& (((1 : Int32) <<< (x2 &&& 31)) ^^^ (-1))) ||| 0)).1 71 x2.toNatClampNeg) &&& (((1 : Int32) <<< (x1 &&& 31)) ^^^ (-1))) ||| 0)) else setI (setI w 71 x1.toNatClampNeg (((w.1 71 x1.toNatClampNeg) &&& (((1 : Int32) <<< (x2 &&& 31)) ^^^ (-1))) ||| ((1 : Int32) <<< (x2 &&& 31)))) 71 x2.toNatClampNeg ((((setI w 71 x1.toNatClampNeg (((w.1 71 x1.toNatClampNeg) &&& (((1 : Int32) <<< (x2 &&& 31)) ^^^ (-1))) ||| ((1 : Int32) <<< (x2 &&& 31)))).1 71 x2.toNatClampNeg) &&& (((1 : Int32) <<< (x1 &&& 31)) ^^^ (-1))) ||| ((1 : Int32) <<< (x1 &&& 31)))
set_option maxHeartbeats 4000000 in
theorem c_M_meeting {d : Nat} (w : MW) (x1 : Int32) (x2 : Int32) (x3 : Int32) (h1 : vp_in x1 8) (h2 : x3 = 0 → vp_in x2 8) (h3 : ¬ x3 = 0 → vp_in x2 8) : Ct d mM_meeting [.ref 62, .int x1, .int x2, .int x3] w none (u_M_meeting w x1 x2 x3) := by
  refine eM_meeting ?_
  refine bM_meeting_0 (y1 := 71) (y2 := 71) (h4 := (h1)) (kt := fun q1 => ?_) (kf := fun q1 => ?_)
  · refine bM_meeting_27 (k := ?_)
    refine bM_meeting_28 (h2 := (h1)) (y1 := 71) (y2 := 71) (h6 := (h2 q1)) (kt := fun _ => ?_) (kf := fun q => absurd q1 q)
    refine bM_meeting_57 (k := ?_)
    exact bM_meeting_58 (h2 := (h2 q1)) (hw := by simp only [u_M_meeting, if_pos q1])
  · refine bM_meeting_21 (k := ?_)
    refine bM_meeting_28 (h2 := (h1)) (y1 := 71) (y2 := 71) (h6 := (h3 q1)) (kt := fun q => absurd q q1) (kf := fun _ => ?_)
    refine bM_meeting_51 (k := ?_)
    exact bM_meeting_58 (h2 := (h3 q1)) (hw := by simp only [u_M_meeting, if_neg q1])
def v_M_told (w : MW) (x1 : Int32) (x2 : Int32) : Int32 := (w.2.1 65 ((160 * x1) + x2).toNatClampNeg).toInt32
set_option maxHeartbeats 4000000 in
theorem c_M_told {d : Nat} (w : MW) (x1 : Int32) (x2 : Int32) (h1 : vp_in ((160 * x1) + x2) 1280) : Ct d mM_told [.ref 62, .int x1, .int x2] w (some (.int (v_M_told w x1 x2))) w := by
  refine eM_told ?_
  exact bM_told_0 (y1 := 65) (h3 := (h1)) (hr := by simp only [v_M_told]) 
def v_M_noSaying (w : MW) (x1 : Int32) (x2 : Int32) : Int32 := if 0 ≤ (v_M_noRow w x1) then (if 0 ≤ x2 then (if x2 ≤ (w.1 64 x1.toNatClampNeg) then (if x2 ≤ 30 then 0 else (-6)) else (-5)) else (-4)) else v_M_noRow w x1
set_option maxHeartbeats 4000000 in
theorem c_M_noSaying {d : Nat} (w : MW) (x1 : Int32) (x2 : Int32) (h1 : 0 ≤ (v_M_noRow w x1) → 0 ≤ x2 → vp_in x1 8) : Ct (d + 2) mM_noSaying [.ref 62, .int x1, .int x2] w (some (.int (v_M_noSaying w x1 x2))) w := by
  refine eM_noSaying ?_
  refine bM_noSaying_0 (ct := c_M_noRow (d := d) w x1) (k := ?_)
  refine bM_noSaying_5 (kt := fun q1 => ?_) (kf := fun q1 => ?_)
  · refine bM_noSaying_12 (kt := fun q2 => ?_) (kf := fun q2 => ?_)
    · refine bM_noSaying_19 (y1 := 64) (h3 := (h1 q1 q2)) (kt := fun q3 => ?_) (kf := fun q3 => ?_)
      · refine bM_noSaying_32 (kt := fun q4 => ?_) (kf := fun q4 => ?_)
        · refine bM_noSaying_43 (k := ?_)
          exact bM_noSaying_44 (hr := by simp only [v_M_noSaying, if_pos q1, if_pos q2, if_pos q3, if_pos q4]) 
        · refine bM_noSaying_38 (k := ?_)
          exact bM_noSaying_44 (hr := by simp only [v_M_noSaying, if_pos q1, if_pos q2, if_pos q3, if_neg q4]) 
      · exact bM_noSaying_29 (hr := by simp only [v_M_noSaying, if_pos q1, if_pos q2, if_neg q3]) 
    · exact bM_noSaying_16 (hr := by simp only [v_M_noSaying, if_pos q1, if_neg q2]) 
  · exact bM_noSaying_10 (hr := by simp only [v_M_noSaying, if_neg q1]) 
theorem no8_M_noSaying (w : MW) (x y : Int32) : vp_in (-(v_M_noSaying w x y)) 8 := by
  have h0 := no8_M_noRow w x
  unfold v_M_noSaying
  generalize v_M_noRow w x = z at h0 ⊢
  repeat' (first | exact h0 | exact vpd (by decide) | split)
def v_M_sign (w : MW) : Int32 := if (w.1 64 (w.1 62 23).toNatClampNeg) ≤ (w.1 62 24) then (-1) else (w.2.1 65 ((160 * (w.1 62 23)) + (w.1 62 24)).toNatClampNeg).toInt32
set_option maxHeartbeats 4000000 in
theorem c_M_sign {d : Nat} (w : MW) (h1 : vp_in (w.1 62 23) 8) (h2 : ¬ (w.1 64 (w.1 62 23).toNatClampNeg) ≤ (w.1 62 24) → vp_in ((160 * (w.1 62 23)) + (w.1 62 24)) 1280) : Ct d mM_sign [.ref 62] w (some (.int (v_M_sign w ))) w := by
  refine eM_sign ?_
  refine bM_sign_0 (y1 := 64) (h5 := (h1)) (kt := fun q1 => ?_) (kf := fun q1 => ?_)
  · refine bM_sign_38 (k := ?_)
    exact bM_sign_39 (hr := by simp only [v_M_sign, if_pos q1]) 
  · refine bM_sign_16 (y1 := 65) (h5 := (h2 q1)) (k := ?_)
    exact bM_sign_39 (hr := by simp only [v_M_sign, if_neg q1]) 
def v_M_is (w : MW) (x1 : Int32) : Int32 := if (v_M_sign w ) = x1 then 1 else 0
def u_M_is (w : MW) (x1 : Int32) : MW := if (v_M_sign w ) = x1 then (setI w 62 24 ((w.1 62 24) + 1)) else w
set_option maxHeartbeats 4000000 in
theorem c_M_is {d : Nat} (w : MW) (x1 : Int32) (h1 : vp_in (w.1 62 23) 8) (h2 : ¬ (w.1 64 (w.1 62 23).toNatClampNeg) ≤ (w.1 62 24) → vp_in ((160 * (w.1 62 23)) + (w.1 62 24)) 1280) : Ct (d + 1) mM_is [.ref 62, .int x1] w (some (.int (v_M_is w x1))) (u_M_is w x1) := by
  refine eM_is ?_
  refine bM_is_0 (ct := c_M_sign (d := d) w (h1) (h2)) (k := ?_)
  refine bM_is_4 (kt := fun q1 => ?_) (kf := fun q1 => ?_)
  · exact bM_is_10 (hr := by simp only [v_M_is, if_pos q1]) (hw := by simp only [u_M_is, if_pos q1])
  · exact bM_is_8 (hr := by simp only [v_M_is, if_neg q1]) (hw := by simp only [u_M_is, if_neg q1])
theorem z_M_is (w : MW) (x1 : Int32) : v_M_is w x1 = 0 ∨ v_M_is w x1 = 1 := by
  unfold v_M_is
  repeat' split
  all_goals first | exact Or.inl rfl | exact Or.inr rfl
def v_M_isSense (w : MW) (x0 : Int32) : Int32 := v_M_within w x0 (-1) 1999
set_option maxHeartbeats 4000000 in
theorem c_M_isSense {d : Nat} (w : MW) (x0 : Int32) : Ct (d + 1) mM_isSense [.int x0] w (some (.int (v_M_isSense w x0))) w := by
  refine eM_isSense ?_
  refine bM_isSense_0 (ct := c_M_within (d := d) w x0 (-1) 1999) (k := ?_)
  exact bM_isSense_8 (hn := nz (z_M_within w x0 (-1) 1999)) (hr := by simp only [v_M_isSense]) 
theorem z_M_isSense (w : MW) (x0 : Int32) : v_M_isSense w x0 = 0 ∨ v_M_isSense w x0 = 1 := by
  unfold v_M_isSense
  repeat' split
  all_goals first | exact Or.inl rfl | exact Or.inr rfl | exact z_M_within w x0 (-1) 1999
def v_M_draw (w : MW) (x1 : Int32) : Int32 := (ush ((setI w 62 12 (((w.1 62 12) * 1103515245) + 12345)).1 62 12) 16) - (ush ((setI w 62 12 (((w.1 62 12) * 1103515245) + 12345)).1 62 12) 16) / x1 * x1
def u_M_draw (w : MW) (x1 : Int32) : MW := setI w 62 12 (((w.1 62 12) * 1103515245) + 12345)
set_option maxHeartbeats 4000000 in
theorem c_M_draw {d : Nat} (w : MW) (x1 : Int32) (h1 : ¬ x1 = 0) : Ct d mM_draw [.ref 62, .int x1] w (some (.int (v_M_draw w x1))) (u_M_draw w x1) := by
  refine eM_draw ?_
  exact bM_draw_0 (h4 := (h1)) (hr := by simp only [v_M_draw]) (hw := by simp only [u_M_draw])
def u_M_ran (w : MW) (x1 : Int32) : MW := if 20 ≤ (w.1 62 15) then (setI w 62 15 ((w.1 62 15) + 1)) else setI (setI w 74 (w.1 62 15).toNatClampNeg x1) 62 15 (((setI w 74 (w.1 62 15).toNatClampNeg x1).1 62 15) + 1)
set_option maxHeartbeats 4000000 in
theorem c_M_ran {d : Nat} (w : MW) (x1 : Int32) (h1 : ¬ 20 ≤ (w.1 62 15) → vp_in (w.1 62 15) 20) : Ct d mM_ran [.ref 62, .int x1] w none (u_M_ran w x1) := by
  refine eM_ran ?_
  refine bM_ran_0 (kt := fun q1 => ?_) (kf := fun q1 => ?_)
  · exact bM_ran_19 (hw := by simp only [u_M_ran, if_pos q1])
  · refine bM_ran_9 (y1 := 74) (h4 := (h1 q1)) (k := ?_)
    exact bM_ran_19 (hw := by simp only [u_M_ran, if_neg q1])
def u_M_change (w : MW) (x1 : Int32) (x2 : Int32) : MW := setI (setI w 72 x1.toNatClampNeg (w.1 72 x2.toNatClampNeg)) 72 x2.toNatClampNeg (w.1 72 x1.toNatClampNeg)
set_option maxHeartbeats 4000000 in
theorem c_M_change {d : Nat} (w : MW) (x1 : Int32) (x2 : Int32) (h1 : vp_in x1 30) (h2 : vp_in x2 30) : Ct d mM_change [.ref 62, .int x1, .int x2] w none (u_M_change w x1 x2) := by
  refine eM_change ?_
  exact bM_change_0 (y1 := 72) (h3 := (h1)) (y2 := 72) (y3 := 72) (h7 := (h2)) (h9 := (h1)) (y4 := 72) (h12 := (h2)) (hw := by simp only [u_M_change])
def v_M_speaks (w : MW) (x1 : Int32) (x2 : Int32) : Int32 := if x1 = (-1) then 0 else if x1 ≤ 999 then (((0 + 1) + 1) + 1) else (((0 + 1) + 1) + 1) + 1
def u_M_speaks (w : MW) (x1 : Int32) (x2 : Int32) : MW := if x1 = (-1) then w else if x1 ≤ 999 then (setI (setI (setI w 79 ((3 * 0) + x2).toNatClampNeg (((x1 / 100) - (x1 / 100) / 10 * 10) * 4)) 79 ((3 * (0 + 1)) + x2).toNatClampNeg ((((x1 / 10) - (x1 / 10) / 10 * 10) * 4) + 1)) 79 ((3 * ((0 + 1) + 1)) + x2).toNatClampNeg ((x1 - x1 / 10 * 10) * 4)) else setI (setI (setI (setI w 79 ((3 * 0) + x2).toNatClampNeg (((x1 / 100) - (x1 / 100) / 10 * 10) * 4)) 79 ((3 * (0 + 1)) + x2).toNatClampNeg ((((x1 / 10) - (x1 / 10) / 10 * 10) * 4) + 1)) 79 ((3 * ((0 + 1) + 1)) + x2).toNatClampNeg 2) 79 ((3 * (((0 + 1) + 1) + 1)) + x2).toNatClampNeg ((x1 - x1 / 10 * 10) * 4)
set_option maxHeartbeats 4000000 in
theorem c_M_speaks {d : Nat} (w : MW) (x1 : Int32) (x2 : Int32) (h1 : ¬ x1 = (-1) → vp_in ((3 * 0) + x2) 12) (h2 : ¬ x1 = (-1) → vp_in ((3 * (0 + 1)) + x2) 12) (h3 : ¬ x1 = (-1) → x1 ≤ 999 → vp_in ((3 * ((0 + 1) + 1)) + x2) 12) (h4 : ¬ x1 = (-1) → ¬ x1 ≤ 999 → vp_in ((3 * ((0 + 1) + 1)) + x2) 12) (h5 : ¬ x1 = (-1) → ¬ x1 ≤ 999 → vp_in ((3 * (((0 + 1) + 1) + 1)) + x2) 12) : Ct d mM_speaks [.ref 62, .int x1, .int x2] w (some (.int (v_M_speaks w x1 x2))) (u_M_speaks w x1 x2) := by
  refine eM_speaks ?_
  refine bM_speaks_0 (kt := fun q1 => ?_) (kf := fun q1 => ?_)
  · refine bM_speaks_9 (y1 := 79) (h3 := (h1 q1)) (y2 := 79) (h6 := (h2 q1)) (kt := fun q2 => ?_) (kf := fun q2 => ?_)
    · exact bM_speaks_76 (y1 := 79) (h3 := (h3 q1 q2)) (hr := by simp only [v_M_speaks, if_neg q1, if_pos q2]) (hw := by simp only [u_M_speaks, if_neg q1, if_pos q2])
    · refine bM_speaks_62 (y1 := 79) (h3 := (h4 q1 q2)) (k := ?_)
      exact bM_speaks_76 (y1 := 79) (h3 := (h5 q1 q2)) (hr := by simp only [v_M_speaks, if_neg q1, if_neg q2]) (hw := by simp only [u_M_speaks, if_neg q1, if_neg q2])
  · exact bM_speaks_7 (hr := by simp only [v_M_speaks, if_pos q1]) (hw := by simp only [u_M_speaks, if_pos q1])
