/-! straight rows: what each does to the small machine, and that the kit's machine does the same -/
abbrev Op : Type := Instr × Nat × Nat × Nat × Nat × Int32
abbrev KK : Type := List (Option Value) → List Value → MW → Prop
def okst (i : Nat) (L : List (Option Value)) : Bool := match i with
  | 0 => true
  | j + 1 => match L.getD j none with
    | some (.long _) => false
    | some (.double _) => false
    | _ => true
/-- an int field of an object, a reference of it, a row of ints -/
def gI (x ci j : Nat) : Prop := kd x = ci ∧ rfo x j = none
def gR (x ci j y : Nat) : Prop := kd x = ci ∧ rfo x j = some y
def iA (x : Nat) : Prop := kd x = 10 ∨ (81 ≤ x ∧ x < 84)
theorem kd_lt {x c : Nat} (h : kd x = c) (hc : c < 99) : x < 81 := by
  rcases Nat.lt_or_ge x 81 with q | q
  · exact q
  · have : kd x = 99 := by
      unfold kd
      rw [List.getD_eq_getElem?_getD, List.getElem?_eq_none (by show 81 ≤ x; exact q)]
      rfl
    omega
def clf (o i : Nat) : Option Int64 := (CLL.find? (fun t => t.1 == o && t.2.1 == i)).map (fun t => t.2.2)
def x1 (S : List Value) (k : Int32 → List Value → Prop) : Prop := match S with
  | .int x :: S => k x S
  | _ => False
def x2 (S : List Value) (k : Int32 → Int32 → List Value → Prop) : Prop := match S with
  | .int y :: .int x :: S => k x y S
  | _ => False
def y2 (S : List Value) (k : Int64 → Int64 → List Value → Prop) : Prop := match S with
  | .long y :: .long x :: S => k x y S
  | _ => False
def ldI (i : Nat) (L : List (Option Value)) (k : Int32 → Prop) : Prop := match L.getD i none with
  | some (.int x) => k x
  | _ => False
def ldJ (i : Nat) (L : List (Option Value)) (k : Int64 → Prop) : Prop := match L.getD i none with
  | some (.long x) => k x
  | _ => False
def ldA (i : Nat) (L : List (Option Value)) (k : Nat → Prop) : Prop := match L.getD i none with
  | some (.ref x) => k x
  | _ => False
def ex (M : MT) (o : Op) (L : List (Option Value)) (S : List Value) (w : MW) (k : KK) : Prop := match o.1 with
  | .iconst _ => k L (.int o.2.2.2.2.2 :: S) w
  | .bipush _ => k L (.int o.2.2.2.2.2 :: S) w
  | .sipush _ => k L (.int o.2.2.2.2.2 :: S) w
  | .lconst n => k L (.long (Int64.ofNat (n : Nat)) :: S) w
  | .ldc_w _ => k L (.int o.2.2.2.2.2 :: S) w
  | .ldc _ => if o.2.2.2.2.1 = 0 then k L (.int o.2.2.2.2.2 :: S) w else k L (.ref o.2.2.1 :: S) w
  | .ldc2_w i => match clf M.1 i with
    | some x => k L (.long x :: S) w
    | none => False
  | .iload_n i => ldI i L (fun x => k L (.int x :: S) w)
  | .iload i => ldI i L (fun x => k L (.int x :: S) w)
  | .lload_n i => ldJ i L (fun x => k L (.long x :: S) w)
  | .lload i => ldJ i L (fun x => k L (.long x :: S) w)
  | .aload_n i => ldA i L (fun x => k L (.ref x :: S) w)
  | .aload i => ldA i L (fun x => k L (.ref x :: S) w)
  | .istore_n i => x1 S (fun x S => okst i L = true ∧ k (L.set i (some (.int x))) S w)
  | .istore i => x1 S (fun x S => okst i L = true ∧ k (L.set i (some (.int x))) S w)
  | .lstore_n i => match S with
    | .long x :: S => okst i L = true ∧ k ((L.set i (some (.long x))).set (i + 1) none) S w
    | _ => False
  | .lstore i => match S with
    | .long x :: S => okst i L = true ∧ k ((L.set i (some (.long x))).set (i + 1) none) S w
    | _ => False
  | .astore_n i => match S with
    | .ref x :: S => okst i L = true ∧ k (L.set i (some (.ref x))) S w
    | _ => False
  | .astore i => match S with
    | .ref x :: S => okst i L = true ∧ k (L.set i (some (.ref x))) S w
    | _ => False
  | .iinc i _ => ldI i L (fun x => k (L.set i (some (.int (x + o.2.2.2.2.2)))) S w)
  | .iadd => x2 S (fun x y S => k L (.int (x + y) :: S) w)
  | .isub => x2 S (fun x y S => k L (.int (x - y) :: S) w)
  | .imul => x2 S (fun x y S => k L (.int (x * y) :: S) w)
  | .iand => x2 S (fun x y S => k L (.int (x &&& y) :: S) w)
  | .ior => x2 S (fun x y S => k L (.int (x ||| y) :: S) w)
  | .ixor => x2 S (fun x y S => k L (.int (x ^^^ y) :: S) w)
  | .idiv => x2 S (fun x y S => ¬ y = 0 ∧ k L (.int (x / y) :: S) w)
  | .irem => x2 S (fun x y S => ¬ y = 0 ∧ k L (.int (x - x / y * y) :: S) w)
  | .ineg => x1 S (fun x S => k L (.int (-x) :: S) w)
  | .ishl => x2 S (fun x y S => k L (.int (x <<< (y &&& 31)) :: S) w)
  | .ishr => x2 S (fun x y S => k L (.int (x >>> (y &&& 31)) :: S) w)
  | .iushr => x2 S (fun x y S => k L (.int (x.toUInt32 >>> (y.toUInt32 &&& Int32.toUInt32 31)).toInt32 :: S) w)
  | .ladd => y2 S (fun x y S => k L (.long (x + y) :: S) w)
  | .lsub => y2 S (fun x y S => k L (.long (x - y) :: S) w)
  | .land => y2 S (fun x y S => k L (.long (x &&& y) :: S) w)
  | .lor => y2 S (fun x y S => k L (.long (x ||| y) :: S) w)
  | .lcmp => y2 S (fun x y S => k L (.int (lg_cmp x y) :: S) w)
  | .lshl => match S with
    | .int y :: .long x :: S => k L (.long (x <<< (y.toInt64 &&& 63)) :: S) w
    | _ => False
  | .lushr => match S with
    | .int y :: .long x :: S => k L (.long (x.toUInt64 >>> (y.toInt64.toUInt64 &&& Int64.toUInt64 63)).toInt64 :: S) w
    | _ => False
  | .i2l => x1 S (fun x S => k L (.long x.toInt64 :: S) w)
  | .l2i => match S with
    | .long x :: S => k L (.int x.toInt32 :: S) w
    | _ => False
  | .i2b => x1 S (fun x S => k L (.int x.toInt8.toInt32 :: S) w)
  | .i2s => x1 S (fun x S => k L (.int x.toInt16.toInt32 :: S) w)
  | .dup => match S with
    | v :: S => v.category = 1 ∧ k L (v :: v :: S) w
    | _ => False
  | .pop => match S with
    | v :: S => v.category = 1 ∧ k L S w
    | _ => False
  | .dup_x1 => match S with
    | v :: u :: S => (v.category = 1 ∧ u.category = 1) ∧ k L (v :: u :: v :: S) w
    | _ => False
  | .dup2 => match S with
    | v :: u :: S => (v.category = 1 ∧ u.category = 1) ∧ k L (v :: u :: v :: u :: S) w
    | _ => False
  | .getstatic _ => k L (.ref o.2.2.1 :: S) w
  | .getfield _ => match S with
    | .ref x :: S => if o.2.2.2.2.1 = 1 then ∃ y, gR x o.2.2.1 o.2.2.2.1 y ∧ k L (.ref y :: S) w else gI x o.2.2.1 o.2.2.2.1 ∧ k L (.int (w.1 x o.2.2.2.1) :: S) w
    | _ => False
  | .putfield _ => match S with
    | .int v :: .ref x :: S => (gI x o.2.2.1 o.2.2.2.1 ∧ (o.2.2.2.2.1 = 2 → v = 0 ∨ v = 1)) ∧ k L S (setI w x o.2.2.2.1 v)
    | _ => False
  | .iaload => match S with
    | .int i :: .ref x :: S => (iA x ∧ vp_in i (aln w x)) ∧ k L (.int (w.1 x i.toNatClampNeg) :: S) w
    | _ => False
  | .laload => match S with
    | .int i :: .ref x :: S => (kd x = 11 ∧ vp_in i (al x)) ∧ k L (.long (w.2.1 x i.toNatClampNeg) :: S) w
    | _ => False
  | .aaload => match S with
    | .int i :: .ref x :: S => (kd x = 10 + o.2.2.2.2.1 ∧ vp_in i (al x)) ∧ ∃ y, rfo x i.toNatClampNeg = some y ∧ k L (.ref y :: S) w
    | _ => False
  | .iastore => match S with
    | .int v :: .int i :: .ref x :: S => (kd x = 10 ∧ vp_in i (al x)) ∧ k L S (setI w x i.toNatClampNeg v)
    | _ => False
  | .lastore => match S with
    | .long v :: .int i :: .ref x :: S => (kd x = 11 ∧ vp_in i (al x)) ∧ k L S (setL w x i.toNatClampNeg v)
    | _ => False
  | .arraylength => match S with
    | .ref x :: S => iA x ∧ k L (.int (Int32.ofNat (aln w x)) :: S) w
    | _ => False
  | .invokestatic _ => if o.2.2.2.2.1 = 3 then x2 S (fun x y S => (S.map fun v => v.category).sum ≤ 8 ∧ k L (.int (if x < y then y else x) :: S) w)
    else if o.2.2.2.2.1 = 4 then x2 S (fun x y S => (S.map fun v => v.category).sum ≤ 8 ∧ k L (.int (if y < x then y else x) :: S) w)
    else match S with
    | .int n :: .int dp :: .ref b :: .int sp :: .ref a :: S => ((S.map fun v => v.category).sum ≤ 8 ∧ (kd a = 9 + o.2.2.2.2.1 ∧ kd b = 9 + o.2.2.2.2.1) ∧ ¬ sp < 0 ∧ ¬ dp < 0 ∧ ¬ n < 0 ∧ sp.toNatClampNeg + n.toNatClampNeg ≤ al a ∧ dp.toNatClampNeg + n.toNatClampNeg ≤ al b) ∧
        k L S (if o.2.2.2.2.1 = 1 then setA w b (va_cpy (w.1 a) (w.1 b) sp.toNatClampNeg dp.toNatClampNeg n.toNatClampNeg) else setB w b (va_cpy (w.2.1 a) (w.2.1 b) sp.toNatClampNeg dp.toNatClampNeg n.toNatClampNeg))
    | _ => False
  | _ => False
/-- a row's checks by program: that the bytes say so, and the links -/
def ck2 (own nL : Nat) (o : Op) : Bool := match o.1 with
  | .iconst n => (o.2.1 == 1) && decide (Int32.ofInt n = o.2.2.2.2.2)
  | .bipush n => (o.2.1 == 2) && decide ((Int8.ofInt n).toInt32 = o.2.2.2.2.2)
  | .sipush n => (o.2.1 == 3) && decide ((Int16.ofInt n).toInt32 = o.2.2.2.2.2)
  | .ldc_w i => (o.2.1 == 3) && CSL.contains (own, i, o.2.2.2.2.2)
  | .ldc i => (o.2.1 == 2) && (if o.2.2.2.2.1 = 0 then CSL.contains (own, i, o.2.2.2.2.2) else STL.any (fun t => t.1 == own && t.2.1 == i && t.2.2.1 == o.2.2.1))
  | .ldc2_w _ => (o.2.1 == 3)
  | .iload _ => (o.2.1 == 2)
  | .lload _ => (o.2.1 == 2)
  | .aload _ => (o.2.1 == 2)
  | .istore_n i => (o.2.1 == 1) && decide ((i : Nat) < nL)
  | .istore i => (o.2.1 == 2) && decide (i < nL)
  | .lstore_n i => (o.2.1 == 1) && decide ((i : Nat) + 1 < nL)
  | .lstore i => (o.2.1 == 2) && decide (i + 1 < nL)
  | .astore_n i => (o.2.1 == 1) && decide ((i : Nat) < nL)
  | .astore i => (o.2.1 == 2) && decide (i < nL)
  | .iinc i n => (o.2.1 == 3) && decide (i < nL) && decide (Int32.ofInt n = o.2.2.2.2.2)
  | .getstatic i => (o.2.1 == 3) && GSL.contains (own, i, o.2.2.1, o.2.2.2.1)
  | .getfield i => (o.2.1 == 3) && lkf own i o.2.2.1 o.2.2.2.1 && decide (o.2.2.1 < 9) && decide (o.2.2.2.1 < cN o.2.2.1)
  | .putfield i => (o.2.1 == 3) && lkf own i o.2.2.1 o.2.2.2.1 && decide (o.2.2.1 < 9) && decide (o.2.2.2.1 < cN o.2.2.1) && !(cT o.2.2.1 o.2.2.2.1).2.2.2 && decide ((cT o.2.2.1 o.2.2.2.1).2.2.1 = (if o.2.2.2.2.1 = 2 then "Z" else "I"))
  | .aaload => (o.2.1 == 1) && (o.2.2.2.2.1 == 2 || o.2.2.2.2.1 == 3)
  | .invokestatic i => (o.2.1 == 3) && MLL.contains (own, i, if o.2.2.2.2.1 = 2 then 1 else o.2.2.2.2.1) && (o.2.2.2.2.1 == 1 || o.2.2.2.2.1 == 2 || o.2.2.2.2.1 == 3 || o.2.2.2.2.1 == 4)
  | _ => (o.2.1 == 1)
def ck (M : MT) (pc : Nat) (o : Op) : Bool := decide (decode M.2.2.1 pc = .ok (o.1, o.2.1)) && ck2 M.1 M.2.2.2.1 o
theorem loc_at {φ : Nat → Nat} {la : Array Slot} {nL i : Nat} {L : List (Option Value)} {v : Value} (hl : lv_has la nL (asc φ 0 L)) (h : L.getD i none = some v) : la[i]? = some (.val (mv φ v)) := hl.2.2 (i, mv φ v) (by
  rw [asc_mem]
  exact ⟨i, v, h, by simp⟩)
theorem getD_set {L : List (Option Value)} {i j : Nat} {u : Option Value} {x : Value} (h : (L.set i u).getD j none = some x) : (j = i ∧ u = some x) ∨ (j ≠ i ∧ L.getD j none = some x) := by
  rw [List.getD_eq_getElem?_getD] at h ⊢
  rw [List.getElem?_set] at h
  by_cases e : i = j
  · subst e
    left
    refine ⟨rfl, ?_⟩
    rw [if_pos rfl] at h
    by_cases q : i < L.length
    · rw [if_pos q] at h; exact h
    · rw [if_neg q] at h; cases h
  · rw [if_neg e] at h
    exact Or.inr ⟨fun q => e q.symm, h⟩
theorem okst_at {L : List (Option Value)} {j : Nat} {v : Value} (h : okst (j + 1) L = true) (hv : L.getD j none = some v) : ¬ v.category = 2 := by
  intro hc
  have h2 : (∃ x, v = .long x) ∨ ∃ x, v = .double x := by
    cases v <;> simp [Value.category] at hc ⊢
  unfold okst at h
  simp only at h
  rw [hv] at h
  rcases h2 with ⟨x, rfl⟩ | ⟨x, rfl⟩ <;> cases h
theorem st_1 {φ : Nat → Nat} {la : Array Slot} {nL i : Nat} {L : List (Option Value)} {v : Value} (hk : okst i L = true) (hl : lv_has la nL ((i, mv φ v) :: (asc φ 0 L).filter (fun q => !(q.1 == i) && !(q.1 + 1 == i && q.2.category == 2)))) : lv_has la nL (asc φ 0 (L.set i (some v))) := by
  refine lv_mono hl (fun q hq => ?_)
  rw [asc_mem] at hq
  obtain ⟨j, u, h1, rfl⟩ := hq
  rcases getD_set h1 with ⟨rfl, h2⟩ | ⟨h2, h3⟩
  · cases h2
    exact List.mem_cons.mpr (Or.inl (by simp))
  · refine List.mem_cons.mpr (Or.inr (List.mem_filter.mpr ⟨(asc_mem L 0 _).mpr ⟨j, u, h3, rfl⟩, ?_⟩))
    by_cases e : j + 1 = i
    · subst e
      have := okst_at hk h3
      simp [mv_cat, this]
    · simp [h2, e]
theorem st_2 {φ : Nat → Nat} {la : Array Slot} {nL i : Nat} {L : List (Option Value)} {v : Value} (hk : okst i L = true) (hl : lv_has la nL ((i, mv φ v) :: (asc φ 0 L).filter (fun q => !(q.1 == i) && (!(q.1 == i + 1) && !(q.1 + 1 == i && q.2.category == 2))))) : lv_has la nL (asc φ 0 ((L.set i (some v)).set (i + 1) none)) := by
  refine lv_mono hl (fun q hq => ?_)
  rw [asc_mem] at hq
  obtain ⟨j, u, h1, rfl⟩ := hq
  rcases getD_set h1 with ⟨_, h2⟩ | ⟨h0, h1⟩
  · cases h2
  rcases getD_set h1 with ⟨rfl, h2⟩ | ⟨h2, h3⟩
  · cases h2
    exact List.mem_cons.mpr (Or.inl (by simp))
  · refine List.mem_cons.mpr (Or.inr (List.mem_filter.mpr ⟨(asc_mem L 0 _).mpr ⟨j, u, h3, rfl⟩, ?_⟩))
    by_cases e : j + 1 = i
    · subst e
      have := okst_at hk h3
      simp [mv_cat, this]
      omega
    · simp [h2, e]
      omega
theorem ldI_e {i : Nat} {L : List (Option Value)} {k : Int32 → Prop} (h : ldI i L k) : ∃ x, L.getD i none = some (.int x) ∧ k x := by
  unfold ldI at h
  split at h
  · exact ⟨_, by assumption, h⟩
  · exact h.elim
theorem ldJ_e {i : Nat} {L : List (Option Value)} {k : Int64 → Prop} (h : ldJ i L k) : ∃ x, L.getD i none = some (.long x) ∧ k x := by
  unfold ldJ at h
  split at h
  · exact ⟨_, by assumption, h⟩
  · exact h.elim
theorem ldA_e {i : Nat} {L : List (Option Value)} {k : Nat → Prop} (h : ldA i L k) : ∃ x, L.getD i none = some (.ref x) ∧ k x := by
  unfold ldA at h
  split at h
  · exact ⟨_, by assumption, h⟩
  · exact h.elim
theorem x1_e {S : List Value} {k : Int32 → List Value → Prop} (h : x1 S k) : ∃ x R, S = .int x :: R ∧ k x R := by
  unfold x1 at h
  split at h
  · exact ⟨_, _, rfl, h⟩
  · exact h.elim
theorem x2_e {S : List Value} {k : Int32 → Int32 → List Value → Prop} (h : x2 S k) : ∃ x y R, S = .int y :: .int x :: R ∧ k x y R := by
  unfold x2 at h
  split at h
  · exact ⟨_, _, _, rfl, h⟩
  · exact h.elim
theorem y2_e {S : List Value} {k : Int64 → Int64 → List Value → Prop} (h : y2 S k) : ∃ x y R, S = .long y :: .long x :: R ∧ k x y R := by
  unfold y2 at h
  split at h
  · exact ⟨_, _, _, rfl, h⟩
  · exact h.elim
theorem cl_at {ci : Nat} (hc : ci < 9) : cls9[ci]? = some (RN ci, cT ci, cN ci) := by
  rcases (show ci = 0 ∨ ci = 1 ∨ ci = 2 ∨ ci = 3 ∨ ci = 4 ∨ ci = 5 ∨ ci = 6 ∨ ci = 7 ∨ ci = 8 by omega) with h | h | h | h | h | h | h | h | h <;> (subst h; rfl)
theorem us_at {ci : Nat} (hc : ci < 9) : ∀ w ∈ u_ws (RN ci) (cT ci) (cN ci), w ∈ GW := by
  rcases (show ci = 0 ∨ ci = 1 ∨ ci = 2 ∨ ci = 3 ∨ ci = 4 ∨ ci = 5 ∨ ci = 6 ∨ ci = 7 ∨ ci = 8 by omega) with h | h | h | h | h | h | h | h | h <;> subst h
  · exact us_0
  · exact us_1
  · exact us_2
  · exact us_3
  · exact us_4
  · exact us_5
  · exact us_6
  · exact us_7
  · exact us_8
def cTy (c : Nat) : Nat → FieldType := match c with
  | 0 => tyX0
  | 1 => tyX1
  | 2 => tyX2
  | 3 => tyX3
  | 4 => tyX4
  | 5 => tyX5
  | 6 => tyX6
  | 7 => tyX7
  | _ => tyX8
theorem ty_at {ci : Nat} (hc : ci < 9) : ∀ k, k < cN ci → parseFieldDescriptor (cT ci k).2.2.1 = some (cTy ci k) := by
  rcases (show ci = 0 ∨ ci = 1 ∨ ci = 2 ∨ ci = 3 ∨ ci = 4 ∨ ci = 5 ∨ ci = 6 ∨ ci = 7 ∨ ci = 8 by omega) with h | h | h | h | h | h | h | h | h <;> subst h
  · exact tyX0_ok
  · exact tyX1_ok
  · exact tyX2_ok
  · exact tyX3_ok
  · exact tyX4_ok
  · exact tyX5_ok
  · exact tyX6_ok
  · exact tyX7_ok
  · exact tyX8_ok
theorem nm_at {ci : Nat} (hc : ci < 9) : ∀ a, a < cN ci → ∀ b, b < cN ci → a ≠ b → (cT ci a).2.1 ≠ (cT ci b).2.1 := by
  rcases (show ci = 0 ∨ ci = 1 ∨ ci = 2 ∨ ci = 3 ∨ ci = 4 ∨ ci = 5 ∨ ci = 6 ∨ ci = 7 ∨ ci = 8 by omega) with h | h | h | h | h | h | h | h | h <;> subst h
  · exact nmX0
  · exact nmX1
  · exact nmX2
  · exact nmX3
  · exact nmX4
  · exact nmX5
  · exact nmX6
  · exact nmX7
  · exact nmX8
theorem own_at {ci j : Nat} (hc : ci < 9) (hj : j < cN ci) : (cT ci j).1 = RN ci := by
  have key : ∀ ci, ci < 9 → ∀ j, j < cN ci → (cT ci j).1 = RN ci := by decide +kernel
  exact key ci hc j hj
section EX
variable {d : Nat} {M : MT} {pc len a b t : Nat} {v : Int32} {L : List (Option Value)} {S : List Value} {w w' : MW} {r : Option Value}
theorem ck_e {i : Instr} (h : ck M pc (i, len, a, b, t, v) = true) : decode M.2.2.1 pc = .ok (i, len) ∧ ck2 M.1 M.2.2.2.1 (i, len, a, b, t, v) = true := by
  unfold ck at h
  rw [Bool.and_eq_true] at h
  exact ⟨of_decide_eq_true h.1, h.2⟩
theorem ex_iconst {n : Int} (hc : ck M pc (.iconst n, len, a, b, t, v) = true) (h : ex M (.iconst n, len, a, b, t, v) L S w (fun L' S' w1 => Rn d M (pc + len) L' S' w1 r w')) : Rn d M pc L S w r w' := by
  obtain ⟨hd, h2⟩ := ck_e hc
  simp only [ck2, Bool.and_eq_true, beq_iff_eq, decide_eq_true_eq] at h2
  obtain ⟨hlen, hv⟩ := h2
  subst hlen
  intro p l e s m args below meth c φ av ro D cy R cells slots Q H locs la X hR hE HD hS hl
  exact lv_iconst X.1 X.2.1 hd hv (h p l e s m args below meth c φ av ro D cy R cells slots Q H locs la X hR hE HD hS hl)
theorem ex_bipush {n : Int} (hc : ck M pc (.bipush n, len, a, b, t, v) = true) (h : ex M (.bipush n, len, a, b, t, v) L S w (fun L' S' w1 => Rn d M (pc + len) L' S' w1 r w')) : Rn d M pc L S w r w' := by
  obtain ⟨hd, h2⟩ := ck_e hc
  simp only [ck2, Bool.and_eq_true, beq_iff_eq, decide_eq_true_eq] at h2
  obtain ⟨hlen, hv⟩ := h2
  subst hlen
  intro p l e s m args below meth c φ av ro D cy R cells slots Q H locs la X hR hE HD hS hl
  exact lv_bipush X.1 X.2.1 hd hv (h p l e s m args below meth c φ av ro D cy R cells slots Q H locs la X hR hE HD hS hl)
theorem ex_sipush {n : Int} (hc : ck M pc (.sipush n, len, a, b, t, v) = true) (h : ex M (.sipush n, len, a, b, t, v) L S w (fun L' S' w1 => Rn d M (pc + len) L' S' w1 r w')) : Rn d M pc L S w r w' := by
  obtain ⟨hd, h2⟩ := ck_e hc
  simp only [ck2, Bool.and_eq_true, beq_iff_eq, decide_eq_true_eq] at h2
  obtain ⟨hlen, hv⟩ := h2
  subst hlen
  intro p l e s m args below meth c φ av ro D cy R cells slots Q H locs la X hR hE HD hS hl
  exact lv_sipush X.1 X.2.1 hd hv (h p l e s m args below meth c φ av ro D cy R cells slots Q H locs la X hR hE HD hS hl)
theorem ex_lconst {n : Fin 2} (hc : ck M pc (.lconst n, len, a, b, t, v) = true) (h : ex M (.lconst n, len, a, b, t, v) L S w (fun L' S' w1 => Rn d M (pc + len) L' S' w1 r w')) : Rn d M pc L S w r w' := by
  obtain ⟨hd, h2⟩ := ck_e hc
  have hlen : len = 1 := by simpa [ck2] using h2
  subst hlen
  intro p l e s m args below meth c φ av ro D cy R cells slots Q H locs la X hR hE HD hS hl
  exact lv_lconst X.1 X.2.1 hd rfl (h p l e s m args below meth c φ av ro D cy R cells slots Q H locs la X hR hE HD hS hl)
theorem ex_ldc_w {n : Nat} (hc : ck M pc (.ldc_w n, len, a, b, t, v) = true) (h : ex M (.ldc_w n, len, a, b, t, v) L S w (fun L' S' w1 => Rn d M (pc + len) L' S' w1 r w')) : Rn d M pc L S w r w' := by
  obtain ⟨hd, h2⟩ := ck_e hc
  simp only [ck2, Bool.and_eq_true, beq_iff_eq] at h2
  obtain ⟨hlen, hv⟩ := h2
  subst hlen
  intro p l e s m args below meth c φ av ro D cy R cells slots Q H locs la X hR hE HD hS hl
  exact lv_ldcw X.1 X.2.1 X.2.2.2.1 (X.2.2.2.2.2.2.1 _ (CSL_ok _ (List.contains_iff_mem.mp hv))) hd (h p l e s m args below meth c φ av ro D cy R cells slots Q H locs la X hR hE HD hS hl)
theorem ex_ldc {n : Nat} (hc : ck M pc (.ldc n, len, a, b, t, v) = true) (h : ex M (.ldc n, len, a, b, t, v) L S w (fun L' S' w1 => Rn d M (pc + len) L' S' w1 r w')) : Rn d M pc L S w r w' := by
  obtain ⟨hd, h2⟩ := ck_e hc
  simp only [ck2, Bool.and_eq_true, beq_iff_eq] at h2
  obtain ⟨hlen, hv⟩ := h2
  subst hlen
  simp only [ex] at h
  by_cases ht : t = 0
  · rw [if_pos ht] at h hv
    intro p l e s m args below meth c φ av ro D cy R cells slots Q H locs la X hR hE HD hS hl
    exact lv_ldc X.1 X.2.1 X.2.2.2.1 (X.2.2.2.2.2.2.1 _ (CSL_ok _ (List.contains_iff_mem.mp hv))) hd (h p l e s m args below meth c φ av ro D cy R cells slots Q H locs la X hR hE HD hS hl)
  · rw [if_neg ht] at h hv
    obtain ⟨q, hq, he⟩ := List.any_eq_true.mp hv
    simp only [Bool.and_eq_true, beq_iff_eq] at he
    obtain ⟨⟨e1, e2⟩, e3⟩ := he
    intro p l e s m args below meth c φ av ro D cy R cells slots Q H locs la X hR hE HD hS hl
    have hz := X.2.2.2.2.2.2.2.2.2.2.2.1 q hq
    rw [e1, e2, e3] at hz
    exact va_ldcS X.1 X.2.1 X.2.2.2.1 hz hd (h p l e s m args below meth c φ av ro D cy R cells slots Q H locs la X hR hE HD hS hl)
theorem ex_ldc2_w {n : Nat} (hc : ck M pc (.ldc2_w n, len, a, b, t, v) = true) (h : ex M (.ldc2_w n, len, a, b, t, v) L S w (fun L' S' w1 => Rn d M (pc + len) L' S' w1 r w')) : Rn d M pc L S w r w' := by
  obtain ⟨hd, h2⟩ := ck_e hc
  have hlen : len = 3 := by simpa [ck2] using h2
  subst hlen
  simp only [ex] at h
  cases hcl : clf M.1 n with
  | none => rw [hcl] at h; exact h.elim
  | some x =>
    rw [hcl] at h
    simp only at h
    unfold clf at hcl
    obtain ⟨q, hq, hx2⟩ := Option.map_eq_some_iff.mp hcl
    have hm := List.mem_of_find?_eq_some hq
    have hp := List.find?_some hq
    simp only [Bool.and_eq_true, beq_iff_eq] at hp
    have hw := CLL_ok q hm
    unfold CLP at hw
    rw [hp.1, hp.2, hx2] at hw
    intro p l e s m args below meth c φ av ro D cy R cells slots Q H locs la X hR hE HD hS hl
    exact lv_ldc2 X.1 X.2.1 X.2.2.2.1 (X.2.2.2.2.2.2.1 _ hw) hd (h p l e s m args below meth c φ av ro D cy R cells slots Q H locs la X hR hE HD hS hl)
theorem ex_iload_n {n : Fin 4} (hc : ck M pc (.iload_n n, len, a, b, t, v) = true) (h : ex M (.iload_n n, len, a, b, t, v) L S w (fun L' S' w1 => Rn d M (pc + len) L' S' w1 r w')) : Rn d M pc L S w r w' := by
  obtain ⟨hd, h2⟩ := ck_e hc
  have hlen : len = 1 := by simpa [ck2] using h2
  subst hlen
  obtain ⟨x, hx1, h⟩ := ldI_e h
  intro p l e s m args below meth c φ av ro D cy R cells slots Q H locs la X hR hE HD hS hl
  exact lv_iload_n X.1 X.2.1 hd rfl (loc_at hl hx1) (h p l e s m args below meth c φ av ro D cy R cells slots Q H locs la X hR hE HD hS hl)
theorem ex_lload_n {n : Fin 4} (hc : ck M pc (.lload_n n, len, a, b, t, v) = true) (h : ex M (.lload_n n, len, a, b, t, v) L S w (fun L' S' w1 => Rn d M (pc + len) L' S' w1 r w')) : Rn d M pc L S w r w' := by
  obtain ⟨hd, h2⟩ := ck_e hc
  have hlen : len = 1 := by simpa [ck2] using h2
  subst hlen
  obtain ⟨x, hx1, h⟩ := ldJ_e h
  intro p l e s m args below meth c φ av ro D cy R cells slots Q H locs la X hR hE HD hS hl
  exact lv_lload_n X.1 X.2.1 hd rfl (loc_at hl hx1) (h p l e s m args below meth c φ av ro D cy R cells slots Q H locs la X hR hE HD hS hl)
theorem ex_aload_n {n : Fin 4} (hc : ck M pc (.aload_n n, len, a, b, t, v) = true) (h : ex M (.aload_n n, len, a, b, t, v) L S w (fun L' S' w1 => Rn d M (pc + len) L' S' w1 r w')) : Rn d M pc L S w r w' := by
  obtain ⟨hd, h2⟩ := ck_e hc
  have hlen : len = 1 := by simpa [ck2] using h2
  subst hlen
  obtain ⟨x, hx1, h⟩ := ldA_e h
  intro p l e s m args below meth c φ av ro D cy R cells slots Q H locs la X hR hE HD hS hl
  exact lv_aload_n X.1 X.2.1 hd rfl (loc_at hl hx1) (h p l e s m args below meth c φ av ro D cy R cells slots Q H locs la X hR hE HD hS hl)
theorem ex_iload {n : Nat} (hc : ck M pc (.iload n, len, a, b, t, v) = true) (h : ex M (.iload n, len, a, b, t, v) L S w (fun L' S' w1 => Rn d M (pc + len) L' S' w1 r w')) : Rn d M pc L S w r w' := by
  obtain ⟨hd, h2⟩ := ck_e hc
  have hlen : len = 2 := by simpa [ck2] using h2
  subst hlen
  obtain ⟨x, hx1, h⟩ := ldI_e h
  intro p l e s m args below meth c φ av ro D cy R cells slots Q H locs la X hR hE HD hS hl
  exact lv_iload X.1 X.2.1 hd (loc_at hl hx1) (h p l e s m args below meth c φ av ro D cy R cells slots Q H locs la X hR hE HD hS hl)
theorem ex_lload {n : Nat} (hc : ck M pc (.lload n, len, a, b, t, v) = true) (h : ex M (.lload n, len, a, b, t, v) L S w (fun L' S' w1 => Rn d M (pc + len) L' S' w1 r w')) : Rn d M pc L S w r w' := by
  obtain ⟨hd, h2⟩ := ck_e hc
  have hlen : len = 2 := by simpa [ck2] using h2
  subst hlen
  obtain ⟨x, hx1, h⟩ := ldJ_e h
  intro p l e s m args below meth c φ av ro D cy R cells slots Q H locs la X hR hE HD hS hl
  exact lv_lload X.1 X.2.1 hd (loc_at hl hx1) (h p l e s m args below meth c φ av ro D cy R cells slots Q H locs la X hR hE HD hS hl)
theorem ex_aload {n : Nat} (hc : ck M pc (.aload n, len, a, b, t, v) = true) (h : ex M (.aload n, len, a, b, t, v) L S w (fun L' S' w1 => Rn d M (pc + len) L' S' w1 r w')) : Rn d M pc L S w r w' := by
  obtain ⟨hd, h2⟩ := ck_e hc
  have hlen : len = 2 := by simpa [ck2] using h2
  subst hlen
  obtain ⟨x, hx1, h⟩ := ldA_e h
  intro p l e s m args below meth c φ av ro D cy R cells slots Q H locs la X hR hE HD hS hl
  exact lv_aload X.1 X.2.1 hd (loc_at hl hx1) (h p l e s m args below meth c φ av ro D cy R cells slots Q H locs la X hR hE HD hS hl)
theorem ex_istore_n {n : Fin 4} (hc : ck M pc (.istore_n n, len, a, b, t, v) = true) (h : ex M (.istore_n n, len, a, b, t, v) L S w (fun L' S' w1 => Rn d M (pc + len) L' S' w1 r w')) : Rn d M pc L S w r w' := by
  obtain ⟨hd, h2⟩ := ck_e hc
  simp only [ck2, Bool.and_eq_true, beq_iff_eq, decide_eq_true_eq] at h2
  obtain ⟨hlen, hn⟩ := h2
  subst hlen
  obtain ⟨x, Sr, rfl, h⟩ := x1_e h
  intro p l e s m args below meth c φ av ro D cy R cells slots Q H locs la X hR hE HD hS hl
  exact lv_istore_n X.1 X.2.1 hd rfl hl hn rfl (fun la hl => h.2 p l e s m args below meth c φ av ro D cy R cells slots Q H locs la X hR hE HD hS (st_1 h.1 hl))
theorem ex_istore {n : Nat} (hc : ck M pc (.istore n, len, a, b, t, v) = true) (h : ex M (.istore n, len, a, b, t, v) L S w (fun L' S' w1 => Rn d M (pc + len) L' S' w1 r w')) : Rn d M pc L S w r w' := by
  obtain ⟨hd, h2⟩ := ck_e hc
  simp only [ck2, Bool.and_eq_true, beq_iff_eq, decide_eq_true_eq] at h2
  obtain ⟨hlen, hn⟩ := h2
  subst hlen
  obtain ⟨x, Sr, rfl, h⟩ := x1_e h
  intro p l e s m args below meth c φ av ro D cy R cells slots Q H locs la X hR hE HD hS hl
  exact lv_istore X.1 X.2.1 hd hl hn rfl (fun la hl => h.2 p l e s m args below meth c φ av ro D cy R cells slots Q H locs la X hR hE HD hS (st_1 h.1 hl))
theorem ex_lstore_n {n : Fin 4} (hc : ck M pc (.lstore_n n, len, a, b, t, v) = true) (h : ex M (.lstore_n n, len, a, b, t, v) L S w (fun L' S' w1 => Rn d M (pc + len) L' S' w1 r w')) : Rn d M pc L S w r w' := by
  obtain ⟨hd, h2⟩ := ck_e hc
  simp only [ck2, Bool.and_eq_true, beq_iff_eq, decide_eq_true_eq] at h2
  obtain ⟨hlen, hn⟩ := h2
  subst hlen
  simp only [ex] at h
  split at h
  case h_2 => exact h.elim
  rename_i x Sr
  intro p l e s m args below meth c φ av ro D cy R cells slots Q H locs la X hR hE HD hS hl
  exact lv_lstore_n X.1 X.2.1 hd rfl hl hn rfl (fun la hl => h.2 p l e s m args below meth c φ av ro D cy R cells slots Q H locs la X hR hE HD hS (st_2 h.1 hl))
theorem ex_lstore {n : Nat} (hc : ck M pc (.lstore n, len, a, b, t, v) = true) (h : ex M (.lstore n, len, a, b, t, v) L S w (fun L' S' w1 => Rn d M (pc + len) L' S' w1 r w')) : Rn d M pc L S w r w' := by
  obtain ⟨hd, h2⟩ := ck_e hc
  simp only [ck2, Bool.and_eq_true, beq_iff_eq, decide_eq_true_eq] at h2
  obtain ⟨hlen, hn⟩ := h2
  subst hlen
  simp only [ex] at h
  split at h
  case h_2 => exact h.elim
  rename_i x Sr
  intro p l e s m args below meth c φ av ro D cy R cells slots Q H locs la X hR hE HD hS hl
  exact lv_lstore X.1 X.2.1 hd hl hn rfl (fun la hl => h.2 p l e s m args below meth c φ av ro D cy R cells slots Q H locs la X hR hE HD hS (st_2 h.1 hl))
theorem ex_astore_n {n : Fin 4} (hc : ck M pc (.astore_n n, len, a, b, t, v) = true) (h : ex M (.astore_n n, len, a, b, t, v) L S w (fun L' S' w1 => Rn d M (pc + len) L' S' w1 r w')) : Rn d M pc L S w r w' := by
  obtain ⟨hd, h2⟩ := ck_e hc
  simp only [ck2, Bool.and_eq_true, beq_iff_eq, decide_eq_true_eq] at h2
  obtain ⟨hlen, hn⟩ := h2
  subst hlen
  simp only [ex] at h
  split at h
  case h_2 => exact h.elim
  rename_i x Sr
  intro p l e s m args below meth c φ av ro D cy R cells slots Q H locs la X hR hE HD hS hl
  exact lv_astore_n X.1 X.2.1 hd rfl hl hn rfl (fun la hl => h.2 p l e s m args below meth c φ av ro D cy R cells slots Q H locs la X hR hE HD hS (st_1 h.1 hl))
theorem ex_astore {n : Nat} (hc : ck M pc (.astore n, len, a, b, t, v) = true) (h : ex M (.astore n, len, a, b, t, v) L S w (fun L' S' w1 => Rn d M (pc + len) L' S' w1 r w')) : Rn d M pc L S w r w' := by
  obtain ⟨hd, h2⟩ := ck_e hc
  simp only [ck2, Bool.and_eq_true, beq_iff_eq, decide_eq_true_eq] at h2
  obtain ⟨hlen, hn⟩ := h2
  subst hlen
  simp only [ex] at h
  split at h
  case h_2 => exact h.elim
  rename_i x Sr
  intro p l e s m args below meth c φ av ro D cy R cells slots Q H locs la X hR hE HD hS hl
  exact lv_astore X.1 X.2.1 hd hl hn rfl (fun la hl => h.2 p l e s m args below meth c φ av ro D cy R cells slots Q H locs la X hR hE HD hS (st_1 h.1 hl))
theorem ex_iinc {n : Nat} {z : Int} (hc : ck M pc (.iinc n z, len, a, b, t, v) = true) (h : ex M (.iinc n z, len, a, b, t, v) L S w (fun L' S' w1 => Rn d M (pc + len) L' S' w1 r w')) : Rn d M pc L S w r w' := by
  obtain ⟨hd, h2⟩ := ck_e hc
  simp only [ck2, Bool.and_eq_true, beq_iff_eq, decide_eq_true_eq] at h2
  obtain ⟨⟨hlen, hn⟩, hv⟩ := h2
  subst hlen
  obtain ⟨x, hx1, h⟩ := ldI_e h
  intro p l e s m args below meth c φ av ro D cy R cells slots Q H locs la X hR hE HD hS hl
  have hm : (n, Value.int x) ∈ asc φ 0 L := by
    rw [asc_mem]
    exact ⟨n, _, hx1, by simp [mv]⟩
  obtain ⟨kk, hkk⟩ := List.getElem?_of_mem hm
  have hok : okst n L = true ∨ okst n L = false := by cases okst n L <;> simp
  refine lv_iinc (v := x + v) X.1 X.2.1 hd hl hkk (by rw [hv]) hn rfl (fun la2 hl2 => h p l e s m args below meth c φ av ro D cy R cells slots Q H locs la2 X hR hE HD hS ?_)
  refine lv_mono hl2 (fun q hq => ?_)
  rw [asc_mem] at hq
  obtain ⟨j, u, h1, rfl⟩ := hq
  rcases getD_set h1 with ⟨rfl, h2⟩ | ⟨h2, h3⟩
  · cases h2
    exact List.mem_cons.mpr (Or.inl (by simp [mv]))
  · refine List.mem_cons.mpr (Or.inr (List.mem_filter.mpr ⟨(asc_mem L 0 _).mpr ⟨j, u, h3, rfl⟩, ?_⟩))
    by_cases e : j + 1 = n
    · subst e
      by_cases hc2 : u.category = 2
      · exfalso
        have q1 := hl.2.1.1 j (mv φ u) (loc_at hl h3) (by rw [mv_cat]; exact hc2)
        have q2 := loc_at hl hx1
        rw [q1] at q2
        cases q2
      · simp [mv_cat, hc2]
    · simp [h2, e]
theorem ex_iadd (hc : ck M pc (.iadd, len, a, b, t, v) = true) (h : ex M (.iadd, len, a, b, t, v) L S w (fun L' S' w1 => Rn d M (pc + len) L' S' w1 r w')) : Rn d M pc L S w r w' := by
  obtain ⟨hd, h2⟩ := ck_e hc
  have hlen : len = 1 := by simpa [ck2] using h2
  subst hlen
  obtain ⟨x, y, Sr, rfl, h⟩ := x2_e h
  intro p l e s m args below meth c φ av ro D cy R cells slots Q H locs la X hR hE HD hS hl
  exact lv_iadd X.1 X.2.1 hd (h p l e s m args below meth c φ av ro D cy R cells slots Q H locs la X hR hE HD hS hl)
theorem ex_isub (hc : ck M pc (.isub, len, a, b, t, v) = true) (h : ex M (.isub, len, a, b, t, v) L S w (fun L' S' w1 => Rn d M (pc + len) L' S' w1 r w')) : Rn d M pc L S w r w' := by
  obtain ⟨hd, h2⟩ := ck_e hc
  have hlen : len = 1 := by simpa [ck2] using h2
  subst hlen
  obtain ⟨x, y, Sr, rfl, h⟩ := x2_e h
  intro p l e s m args below meth c φ av ro D cy R cells slots Q H locs la X hR hE HD hS hl
  exact lv_isub X.1 X.2.1 hd (h p l e s m args below meth c φ av ro D cy R cells slots Q H locs la X hR hE HD hS hl)
theorem ex_imul (hc : ck M pc (.imul, len, a, b, t, v) = true) (h : ex M (.imul, len, a, b, t, v) L S w (fun L' S' w1 => Rn d M (pc + len) L' S' w1 r w')) : Rn d M pc L S w r w' := by
  obtain ⟨hd, h2⟩ := ck_e hc
  have hlen : len = 1 := by simpa [ck2] using h2
  subst hlen
  obtain ⟨x, y, Sr, rfl, h⟩ := x2_e h
  intro p l e s m args below meth c φ av ro D cy R cells slots Q H locs la X hR hE HD hS hl
  exact lv_imul X.1 X.2.1 hd (h p l e s m args below meth c φ av ro D cy R cells slots Q H locs la X hR hE HD hS hl)
theorem ex_iand (hc : ck M pc (.iand, len, a, b, t, v) = true) (h : ex M (.iand, len, a, b, t, v) L S w (fun L' S' w1 => Rn d M (pc + len) L' S' w1 r w')) : Rn d M pc L S w r w' := by
  obtain ⟨hd, h2⟩ := ck_e hc
  have hlen : len = 1 := by simpa [ck2] using h2
  subst hlen
  obtain ⟨x, y, Sr, rfl, h⟩ := x2_e h
  intro p l e s m args below meth c φ av ro D cy R cells slots Q H locs la X hR hE HD hS hl
  exact lv_iand X.1 X.2.1 hd (h p l e s m args below meth c φ av ro D cy R cells slots Q H locs la X hR hE HD hS hl)
theorem ex_ior (hc : ck M pc (.ior, len, a, b, t, v) = true) (h : ex M (.ior, len, a, b, t, v) L S w (fun L' S' w1 => Rn d M (pc + len) L' S' w1 r w')) : Rn d M pc L S w r w' := by
  obtain ⟨hd, h2⟩ := ck_e hc
  have hlen : len = 1 := by simpa [ck2] using h2
  subst hlen
  obtain ⟨x, y, Sr, rfl, h⟩ := x2_e h
  intro p l e s m args below meth c φ av ro D cy R cells slots Q H locs la X hR hE HD hS hl
  exact lv_ior X.1 X.2.1 hd (h p l e s m args below meth c φ av ro D cy R cells slots Q H locs la X hR hE HD hS hl)
theorem ex_ixor (hc : ck M pc (.ixor, len, a, b, t, v) = true) (h : ex M (.ixor, len, a, b, t, v) L S w (fun L' S' w1 => Rn d M (pc + len) L' S' w1 r w')) : Rn d M pc L S w r w' := by
  obtain ⟨hd, h2⟩ := ck_e hc
  have hlen : len = 1 := by simpa [ck2] using h2
  subst hlen
  obtain ⟨x, y, Sr, rfl, h⟩ := x2_e h
  intro p l e s m args below meth c φ av ro D cy R cells slots Q H locs la X hR hE HD hS hl
  exact lv_ixor X.1 X.2.1 hd (h p l e s m args below meth c φ av ro D cy R cells slots Q H locs la X hR hE HD hS hl)
theorem ex_idiv (hc : ck M pc (.idiv, len, a, b, t, v) = true) (h : ex M (.idiv, len, a, b, t, v) L S w (fun L' S' w1 => Rn d M (pc + len) L' S' w1 r w')) : Rn d M pc L S w r w' := by
  obtain ⟨hd, h2⟩ := ck_e hc
  have hlen : len = 1 := by simpa [ck2] using h2
  subst hlen
  obtain ⟨x, y, Sr, rfl, h⟩ := x2_e h
  intro p l e s m args below meth c φ av ro D cy R cells slots Q H locs la X hR hE HD hS hl
  exact lv_idiv X.1 X.2.1 hd h.1 (h.2 p l e s m args below meth c φ av ro D cy R cells slots Q H locs la X hR hE HD hS hl)
theorem ex_irem (hc : ck M pc (.irem, len, a, b, t, v) = true) (h : ex M (.irem, len, a, b, t, v) L S w (fun L' S' w1 => Rn d M (pc + len) L' S' w1 r w')) : Rn d M pc L S w r w' := by
  obtain ⟨hd, h2⟩ := ck_e hc
  have hlen : len = 1 := by simpa [ck2] using h2
  subst hlen
  obtain ⟨x, y, Sr, rfl, h⟩ := x2_e h
  intro p l e s m args below meth c φ av ro D cy R cells slots Q H locs la X hR hE HD hS hl
  exact lv_irem X.1 X.2.1 hd h.1 (h.2 p l e s m args below meth c φ av ro D cy R cells slots Q H locs la X hR hE HD hS hl)
theorem ex_ineg (hc : ck M pc (.ineg, len, a, b, t, v) = true) (h : ex M (.ineg, len, a, b, t, v) L S w (fun L' S' w1 => Rn d M (pc + len) L' S' w1 r w')) : Rn d M pc L S w r w' := by
  obtain ⟨hd, h2⟩ := ck_e hc
  have hlen : len = 1 := by simpa [ck2] using h2
  subst hlen
  obtain ⟨x, Sr, rfl, h⟩ := x1_e h
  intro p l e s m args below meth c φ av ro D cy R cells slots Q H locs la X hR hE HD hS hl
  exact lv_ineg X.1 X.2.1 hd (h p l e s m args below meth c φ av ro D cy R cells slots Q H locs la X hR hE HD hS hl)
theorem ex_ishl (hc : ck M pc (.ishl, len, a, b, t, v) = true) (h : ex M (.ishl, len, a, b, t, v) L S w (fun L' S' w1 => Rn d M (pc + len) L' S' w1 r w')) : Rn d M pc L S w r w' := by
  obtain ⟨hd, h2⟩ := ck_e hc
  have hlen : len = 1 := by simpa [ck2] using h2
  subst hlen
  obtain ⟨x, y, Sr, rfl, h⟩ := x2_e h
  intro p l e s m args below meth c φ av ro D cy R cells slots Q H locs la X hR hE HD hS hl
  exact lv_ishl X.1 X.2.1 hd (h p l e s m args below meth c φ av ro D cy R cells slots Q H locs la X hR hE HD hS hl)
theorem ex_ishr (hc : ck M pc (.ishr, len, a, b, t, v) = true) (h : ex M (.ishr, len, a, b, t, v) L S w (fun L' S' w1 => Rn d M (pc + len) L' S' w1 r w')) : Rn d M pc L S w r w' := by
  obtain ⟨hd, h2⟩ := ck_e hc
  have hlen : len = 1 := by simpa [ck2] using h2
  subst hlen
  obtain ⟨x, y, Sr, rfl, h⟩ := x2_e h
  intro p l e s m args below meth c φ av ro D cy R cells slots Q H locs la X hR hE HD hS hl
  exact lv_ishr X.1 X.2.1 hd (h p l e s m args below meth c φ av ro D cy R cells slots Q H locs la X hR hE HD hS hl)
theorem ex_iushr (hc : ck M pc (.iushr, len, a, b, t, v) = true) (h : ex M (.iushr, len, a, b, t, v) L S w (fun L' S' w1 => Rn d M (pc + len) L' S' w1 r w')) : Rn d M pc L S w r w' := by
  obtain ⟨hd, h2⟩ := ck_e hc
  have hlen : len = 1 := by simpa [ck2] using h2
  subst hlen
  obtain ⟨x, y, Sr, rfl, h⟩ := x2_e h
  intro p l e s m args below meth c φ av ro D cy R cells slots Q H locs la X hR hE HD hS hl
  exact lv_iushr X.1 X.2.1 hd rfl (h p l e s m args below meth c φ av ro D cy R cells slots Q H locs la X hR hE HD hS hl)
theorem ex_ladd (hc : ck M pc (.ladd, len, a, b, t, v) = true) (h : ex M (.ladd, len, a, b, t, v) L S w (fun L' S' w1 => Rn d M (pc + len) L' S' w1 r w')) : Rn d M pc L S w r w' := by
  obtain ⟨hd, h2⟩ := ck_e hc
  have hlen : len = 1 := by simpa [ck2] using h2
  subst hlen
  obtain ⟨x, y, Sr, rfl, h⟩ := y2_e h
  intro p l e s m args below meth c φ av ro D cy R cells slots Q H locs la X hR hE HD hS hl
  exact lv_ladd X.1 X.2.1 hd (h p l e s m args below meth c φ av ro D cy R cells slots Q H locs la X hR hE HD hS hl)
theorem ex_lsub (hc : ck M pc (.lsub, len, a, b, t, v) = true) (h : ex M (.lsub, len, a, b, t, v) L S w (fun L' S' w1 => Rn d M (pc + len) L' S' w1 r w')) : Rn d M pc L S w r w' := by
  obtain ⟨hd, h2⟩ := ck_e hc
  have hlen : len = 1 := by simpa [ck2] using h2
  subst hlen
  obtain ⟨x, y, Sr, rfl, h⟩ := y2_e h
  intro p l e s m args below meth c φ av ro D cy R cells slots Q H locs la X hR hE HD hS hl
  exact lv_lsub X.1 X.2.1 hd (h p l e s m args below meth c φ av ro D cy R cells slots Q H locs la X hR hE HD hS hl)
theorem ex_land (hc : ck M pc (.land, len, a, b, t, v) = true) (h : ex M (.land, len, a, b, t, v) L S w (fun L' S' w1 => Rn d M (pc + len) L' S' w1 r w')) : Rn d M pc L S w r w' := by
  obtain ⟨hd, h2⟩ := ck_e hc
  have hlen : len = 1 := by simpa [ck2] using h2
  subst hlen
  obtain ⟨x, y, Sr, rfl, h⟩ := y2_e h
  intro p l e s m args below meth c φ av ro D cy R cells slots Q H locs la X hR hE HD hS hl
  exact lv_land X.1 X.2.1 hd (h p l e s m args below meth c φ av ro D cy R cells slots Q H locs la X hR hE HD hS hl)
theorem ex_lor (hc : ck M pc (.lor, len, a, b, t, v) = true) (h : ex M (.lor, len, a, b, t, v) L S w (fun L' S' w1 => Rn d M (pc + len) L' S' w1 r w')) : Rn d M pc L S w r w' := by
  obtain ⟨hd, h2⟩ := ck_e hc
  have hlen : len = 1 := by simpa [ck2] using h2
  subst hlen
  obtain ⟨x, y, Sr, rfl, h⟩ := y2_e h
  intro p l e s m args below meth c φ av ro D cy R cells slots Q H locs la X hR hE HD hS hl
  exact lv_lor X.1 X.2.1 hd (h p l e s m args below meth c φ av ro D cy R cells slots Q H locs la X hR hE HD hS hl)
theorem ex_lcmp (hc : ck M pc (.lcmp, len, a, b, t, v) = true) (h : ex M (.lcmp, len, a, b, t, v) L S w (fun L' S' w1 => Rn d M (pc + len) L' S' w1 r w')) : Rn d M pc L S w r w' := by
  obtain ⟨hd, h2⟩ := ck_e hc
  have hlen : len = 1 := by simpa [ck2] using h2
  subst hlen
  obtain ⟨x, y, Sr, rfl, h⟩ := y2_e h
  intro p l e s m args below meth c φ av ro D cy R cells slots Q H locs la X hR hE HD hS hl
  exact W.lcmp X.1 X.2.1 hd (h p l e s m args below meth c φ av ro D cy R cells slots Q H locs la X hR hE HD hS hl)
theorem ex_lshl (hc : ck M pc (.lshl, len, a, b, t, v) = true) (h : ex M (.lshl, len, a, b, t, v) L S w (fun L' S' w1 => Rn d M (pc + len) L' S' w1 r w')) : Rn d M pc L S w r w' := by
  obtain ⟨hd, h2⟩ := ck_e hc
  have hlen : len = 1 := by simpa [ck2] using h2
  subst hlen
  simp only [ex] at h
  split at h
  case h_2 => exact h.elim
  rename_i y x Sr
  intro p l e s m args below meth c φ av ro D cy R cells slots Q H locs la X hR hE HD hS hl
  exact lv_lshl X.1 X.2.1 hd rfl (h p l e s m args below meth c φ av ro D cy R cells slots Q H locs la X hR hE HD hS hl)
theorem ex_lushr (hc : ck M pc (.lushr, len, a, b, t, v) = true) (h : ex M (.lushr, len, a, b, t, v) L S w (fun L' S' w1 => Rn d M (pc + len) L' S' w1 r w')) : Rn d M pc L S w r w' := by
  obtain ⟨hd, h2⟩ := ck_e hc
  have hlen : len = 1 := by simpa [ck2] using h2
  subst hlen
  simp only [ex] at h
  split at h
  case h_2 => exact h.elim
  rename_i y x Sr
  intro p l e s m args below meth c φ av ro D cy R cells slots Q H locs la X hR hE HD hS hl
  exact lv_lushr X.1 X.2.1 hd rfl (h p l e s m args below meth c φ av ro D cy R cells slots Q H locs la X hR hE HD hS hl)
theorem ex_i2l (hc : ck M pc (.i2l, len, a, b, t, v) = true) (h : ex M (.i2l, len, a, b, t, v) L S w (fun L' S' w1 => Rn d M (pc + len) L' S' w1 r w')) : Rn d M pc L S w r w' := by
  obtain ⟨hd, h2⟩ := ck_e hc
  have hlen : len = 1 := by simpa [ck2] using h2
  subst hlen
  obtain ⟨x, Sr, rfl, h⟩ := x1_e h
  intro p l e s m args below meth c φ av ro D cy R cells slots Q H locs la X hR hE HD hS hl
  exact lv_i2l X.1 X.2.1 hd rfl (h p l e s m args below meth c φ av ro D cy R cells slots Q H locs la X hR hE HD hS hl)
theorem ex_i2b (hc : ck M pc (.i2b, len, a, b, t, v) = true) (h : ex M (.i2b, len, a, b, t, v) L S w (fun L' S' w1 => Rn d M (pc + len) L' S' w1 r w')) : Rn d M pc L S w r w' := by
  obtain ⟨hd, h2⟩ := ck_e hc
  have hlen : len = 1 := by simpa [ck2] using h2
  subst hlen
  obtain ⟨x, Sr, rfl, h⟩ := x1_e h
  intro p l e s m args below meth c φ av ro D cy R cells slots Q H locs la X hR hE HD hS hl
  exact lv_i2b X.1 X.2.1 hd rfl (h p l e s m args below meth c φ av ro D cy R cells slots Q H locs la X hR hE HD hS hl)
theorem ex_i2s (hc : ck M pc (.i2s, len, a, b, t, v) = true) (h : ex M (.i2s, len, a, b, t, v) L S w (fun L' S' w1 => Rn d M (pc + len) L' S' w1 r w')) : Rn d M pc L S w r w' := by
  obtain ⟨hd, h2⟩ := ck_e hc
  have hlen : len = 1 := by simpa [ck2] using h2
  subst hlen
  obtain ⟨x, Sr, rfl, h⟩ := x1_e h
  intro p l e s m args below meth c φ av ro D cy R cells slots Q H locs la X hR hE HD hS hl
  exact lv_i2s X.1 X.2.1 hd rfl (h p l e s m args below meth c φ av ro D cy R cells slots Q H locs la X hR hE HD hS hl)
theorem ex_l2i (hc : ck M pc (.l2i, len, a, b, t, v) = true) (h : ex M (.l2i, len, a, b, t, v) L S w (fun L' S' w1 => Rn d M (pc + len) L' S' w1 r w')) : Rn d M pc L S w r w' := by
  obtain ⟨hd, h2⟩ := ck_e hc
  have hlen : len = 1 := by simpa [ck2] using h2
  subst hlen
  simp only [ex] at h
  split at h
  case h_2 => exact h.elim
  rename_i x Sr
  intro p l e s m args below meth c φ av ro D cy R cells slots Q H locs la X hR hE HD hS hl
  exact lv_l2i X.1 X.2.1 hd rfl (h p l e s m args below meth c φ av ro D cy R cells slots Q H locs la X hR hE HD hS hl)
theorem ex_dup (hc : ck M pc (.dup, len, a, b, t, v) = true) (h : ex M (.dup, len, a, b, t, v) L S w (fun L' S' w1 => Rn d M (pc + len) L' S' w1 r w')) : Rn d M pc L S w r w' := by
  obtain ⟨hd, h2⟩ := ck_e hc
  have hlen : len = 1 := by simpa [ck2] using h2
  subst hlen
  simp only [ex] at h
  split at h
  case h_2 => exact h.elim
  rename_i u Sr
  intro p l e s m args below meth c φ av ro D cy R cells slots Q H locs la X hR hE HD hS hl
  exact lv_dup X.1 X.2.1 hd (by rw [mv_cat]; exact h.1) (h.2 p l e s m args below meth c φ av ro D cy R cells slots Q H locs la X hR hE HD hS hl)
theorem ex_pop (hc : ck M pc (.pop, len, a, b, t, v) = true) (h : ex M (.pop, len, a, b, t, v) L S w (fun L' S' w1 => Rn d M (pc + len) L' S' w1 r w')) : Rn d M pc L S w r w' := by
  obtain ⟨hd, h2⟩ := ck_e hc
  have hlen : len = 1 := by simpa [ck2] using h2
  subst hlen
  simp only [ex] at h
  split at h
  case h_2 => exact h.elim
  rename_i u Sr
  intro p l e s m args below meth c φ av ro D cy R cells slots Q H locs la X hR hE HD hS hl
  exact lv_pop X.1 X.2.1 hd (by rw [mv_cat]; exact h.1) (h.2 p l e s m args below meth c φ av ro D cy R cells slots Q H locs la X hR hE HD hS hl)
theorem ex_dup_x1 (hc : ck M pc (.dup_x1, len, a, b, t, v) = true) (h : ex M (.dup_x1, len, a, b, t, v) L S w (fun L' S' w1 => Rn d M (pc + len) L' S' w1 r w')) : Rn d M pc L S w r w' := by
  obtain ⟨hd, h2⟩ := ck_e hc
  have hlen : len = 1 := by simpa [ck2] using h2
  subst hlen
  simp only [ex] at h
  split at h
  case h_2 => exact h.elim
  rename_i u z Sr
  intro p l e s m args below meth c φ av ro D cy R cells slots Q H locs la X hR hE HD hS hl
  exact lv_dup_x1 X.1 X.2.1 hd (by rw [mv_cat]; exact h.1.1) (by rw [mv_cat]; exact h.1.2) (h.2 p l e s m args below meth c φ av ro D cy R cells slots Q H locs la X hR hE HD hS hl)
theorem ex_dup2 (hc : ck M pc (.dup2, len, a, b, t, v) = true) (h : ex M (.dup2, len, a, b, t, v) L S w (fun L' S' w1 => Rn d M (pc + len) L' S' w1 r w')) : Rn d M pc L S w r w' := by
  obtain ⟨hd, h2⟩ := ck_e hc
  have hlen : len = 1 := by simpa [ck2] using h2
  subst hlen
  simp only [ex] at h
  split at h
  case h_2 => exact h.elim
  rename_i u z Sr
  intro p l e s m args below meth c φ av ro D cy R cells slots Q H locs la X hR hE HD hS hl
  exact lv_dup2_11 X.1 X.2.1 hd (by rw [mv_cat]; exact h.1.1) (by rw [mv_cat]; exact h.1.2) (h.2 p l e s m args below meth c φ av ro D cy R cells slots Q H locs la X hR hE HD hS hl)
theorem ex_getstatic {n : Nat} (hc : ck M pc (.getstatic n, len, a, b, t, v) = true) (h : ex M (.getstatic n, len, a, b, t, v) L S w (fun L' S' w1 => Rn d M (pc + len) L' S' w1 r w')) : Rn d M pc L S w r w' := by
  obtain ⟨hd, h2⟩ := ck_e hc
  simp only [ck2, Bool.and_eq_true, beq_iff_eq] at h2
  obtain ⟨hlen, hv⟩ := h2
  subst hlen
  obtain ⟨h81, hw⟩ := GSL_ok _ (List.contains_iff_mem.mp hv)
  intro p l e s m args below meth c φ av ro D cy R cells slots Q H locs la X hR hE HD hS hl
  obtain ⟨hx, hb, hml, hown, hrt, hlk, hts, hK, hI, hX⟩ := id X
  dsimp only at h81 hw
  by_cases hb0 : b = 0
  · rw [if_pos hb0] at hw
    exact va_gets hx hb (hX.2.1 a h81) hS hown (hts _ hw) (fun x h => h) hd (h p l e s m args below meth c φ av ro D cy R cells slots Q H locs la X hR hE HD hS hl)
  · rw [if_neg hb0] at hw
    exact va_getsN hx hb (hX.2.1 a h81) hS hown (va_Nw.use rfl (hX.1 _ hw)) (fun x h => h) hd (h p l e s m args below meth c φ av ro D cy R cells slots Q H locs la X hR hE HD hS hl)
theorem ex_getfield {n : Nat} (hc : ck M pc (.getfield n, len, a, b, t, v) = true) (h : ex M (.getfield n, len, a, b, t, v) L S w (fun L' S' w1 => Rn d M (pc + len) L' S' w1 r w')) : Rn d M pc L S w r w' := by
  obtain ⟨hd, h2⟩ := ck_e hc
  simp only [ck2, Bool.and_eq_true, beq_iff_eq, decide_eq_true_eq] at h2
  obtain ⟨⟨⟨hlen, hv⟩, ha9⟩, hbN⟩ := h2
  subst hlen
  simp only [ex] at h
  split at h
  case h_2 => exact h.elim
  rename_i x Sr
  have hw := lkf_ok hv
  by_cases ht : t = 1
  · rw [if_pos ht] at h
    obtain ⟨y, ⟨g1, g2⟩, h⟩ := h
    intro p l e s m args below meth c φ av ro D cy R cells slots Q H locs la X hR hE HD hS hl
    obtain ⟨hx, hb, hml, hown, hrt, hlk, hts, hK, hI, hX⟩ := id X
    exact va_get hx hb (cl := cls9) (C := RN a) (T := cT a) (N := cN a) hts (us_at ha9) hown hK HD.1 x (by rw [wl_get (kd_lt g1 (by omega)), cell_obj g1 ha9]) (cl_at ha9) b hbN (hts _ hw) (fun x h => h) (v := .ref (φ y)) (by rw [fs_get hbN]; unfold fval; rw [g2]) hd (h p l e s m args below meth c φ av ro D cy R cells slots Q H locs la X hR hE HD hS hl)
  · rw [if_neg ht] at h
    obtain ⟨⟨g1, g2⟩, h⟩ := h
    intro p l e s m args below meth c φ av ro D cy R cells slots Q H locs la X hR hE HD hS hl
    obtain ⟨hx, hb, hml, hown, hrt, hlk, hts, hK, hI, hX⟩ := id X
    exact va_get hx hb (cl := cls9) (C := RN a) (T := cT a) (N := cN a) hts (us_at ha9) hown hK HD.1 x (by rw [wl_get (kd_lt g1 (by omega)), cell_obj g1 ha9]) (cl_at ha9) b hbN (hts _ hw) (fun x h => h) (v := .int (w.1 x b)) (by rw [fs_get hbN]; unfold fval; rw [g2]) hd (h p l e s m args below meth c φ av ro D cy R cells slots Q H locs la X hR hE HD hS hl)
theorem ex_putfield {n : Nat} (hc : ck M pc (.putfield n, len, a, b, t, v) = true) (h : ex M (.putfield n, len, a, b, t, v) L S w (fun L' S' w1 => Rn d M (pc + len) L' S' w1 r w')) : Rn d M pc L S w r w' := by
  obtain ⟨hd, h2⟩ := ck_e hc
  simp only [ck2, Bool.and_eq_true, beq_iff_eq, decide_eq_true_eq, Bool.not_eq_true'] at h2
  obtain ⟨⟨⟨⟨⟨hlen, hv⟩, ha9⟩, hbN⟩, hfin⟩, hty⟩ := h2
  subst hlen
  simp only [ex] at h
  split at h
  case h_2 => exact h.elim
  rename_i u x Sr
  have hw := lkf_ok hv
  obtain ⟨⟨⟨g1, g2⟩, g3⟩, h⟩ := h
  intro p l e s m args below meth c φ av ro D cy R cells slots Q H locs la X hR hE HD hS hl
  obtain ⟨hx, hb, hml, hown, hrt, hlk, hts, hK, hI, hX⟩ := id X
  have x81 := kd_lt g1 (by omega)
  have hset : (wl φ cy w).set x (φ x, .inr (a, ((List.range (cN a)).map (fval φ w x)).set b (.int u))) = wl φ cy (setI w x b u) :=
    wl_set (by rw [cell_obj g1 ha9, fs_set g2]) (fun k hk => cell_congr (setI_o hk) rfl)
  have hro : ∀ k, 81 ≤ k → k < 84 → (setI w x b u).1 k = ro.1 k ∧ aln (setI w x b u) k = aln ro k := fun k h1 h2 => by
    have e : k ≠ x := by omega
    unfold aln
    rw [setI_o e]
    exact HD.2 k h1 h2
  have hnar : ∃ ty, parseFieldDescriptor (cT a b).2.2.1 = some ty ∧ narrow ty (.int u) = .int u ∧ fits ty (.int u) = true := by
    by_cases ht : t = 2
    · rw [if_pos ht] at hty
      refine ⟨.boolean, by rw [hty]; decide +kernel, ?_, ?_⟩
      · rcases g3 ht with e | e <;> (subst e; decide +kernel)
      · rcases g3 ht with e | e <;> (subst e; decide +kernel)
    · rw [if_neg ht] at hty
      exact ⟨.int, by rw [hty]; decide +kernel, rfl, rfl⟩
  obtain ⟨ty, n1, n2, n3⟩ := hnar
  refine va_put hx hb (cl := cls9) (C := RN a) (T := cT a) (N := cN a) hts (us_at ha9) (cTy a) (ty_at ha9) (nm_at ha9) hown hK HD.1 (wl_D hI) hS x (by rw [wl_get x81, cell_obj g1 ha9]) (cl_at ha9) b hbN (hts _ hw) (fun x h => h) hfin n1 n2 n3 (by simpa using hbN) hd (fun H1 locs1 hP1 hD1 hS1 => ?_)
  have hP1 : va_P D cls9 ((wl φ cy w).set x (φ x, .inr (a, ((List.range (cN a)).map (fval φ w x)).set b (.int u)))) H1 := hP1
  rw [hset] at hP1
  exact h p l e s m args below meth c φ av ro D cy R cells slots Q H1 locs1 la X hR hE ⟨hP1, hro⟩ hS1 hl
theorem ex_iaload (hc : ck M pc (.iaload, len, a, b, t, v) = true) (h : ex M (.iaload, len, a, b, t, v) L S w (fun L' S' w1 => Rn d M (pc + len) L' S' w1 r w')) : Rn d M pc L S w r w' := by
  obtain ⟨hd, h2⟩ := ck_e hc
  have hlen : len = 1 := by simpa [ck2] using h2
  subst hlen
  simp only [ex] at h
  split at h
  case h_2 => exact h.elim
  rename_i i x Sr
  obtain ⟨⟨hi, hin⟩, h⟩ := h
  intro p l e s m args below meth c φ av ro D cy R cells slots Q H locs la X hR hE HD hS hl
  obtain ⟨hx, hb, hml, hown, hrt, hlk, hts, hK, hI, hX⟩ := id X
  rcases hi with hi | ⟨h81, h84⟩
  · have x81 := kd_lt hi (by omega)
    have hal : aln w x = al x := by unfold aln; rw [if_neg (by omega), if_neg (by omega), if_neg (by omega)]
    exact va_iald hx hb hK HD.1 x 0 (by rw [wl_get x81, cell_int hi]) rfl (by rw [← hal]; exact hin) hd (h p l e s m args below meth c φ av ro D cy R cells slots Q H locs la X hR hE HD hS hl)
  · obtain ⟨e1, e2⟩ := HD.2 x h81 h84
    exact va_ti hx hb (hX.2.2.2.2.1 x h81 h84) hS (by rw [← e2]; exact hin) (v := .int (w.1 x i.toNatClampNeg)) (by rw [e1]) hd (h p l e s m args below meth c φ av ro D cy R cells slots Q H locs la X hR hE HD hS hl)
theorem ex_laload (hc : ck M pc (.laload, len, a, b, t, v) = true) (h : ex M (.laload, len, a, b, t, v) L S w (fun L' S' w1 => Rn d M (pc + len) L' S' w1 r w')) : Rn d M pc L S w r w' := by
  obtain ⟨hd, h2⟩ := ck_e hc
  have hlen : len = 1 := by simpa [ck2] using h2
  subst hlen
  simp only [ex] at h
  split at h
  case h_2 => exact h.elim
  rename_i i x Sr
  obtain ⟨⟨hi, hin⟩, h⟩ := h
  intro p l e s m args below meth c φ av ro D cy R cells slots Q H locs la X hR hE HD hS hl
  obtain ⟨hx, hb, hml, hown, hrt, hlk, hts, hK, hI, hX⟩ := id X
  exact va_lald hx hb hK HD.1 x 1 (by rw [wl_get (kd_lt hi (by omega)), cell_long hi]) rfl hin hd (h p l e s m args below meth c φ av ro D cy R cells slots Q H locs la X hR hE HD hS hl)
theorem ex_arraylength (hc : ck M pc (.arraylength, len, a, b, t, v) = true) (h : ex M (.arraylength, len, a, b, t, v) L S w (fun L' S' w1 => Rn d M (pc + len) L' S' w1 r w')) : Rn d M pc L S w r w' := by
  obtain ⟨hd, h2⟩ := ck_e hc
  have hlen : len = 1 := by simpa [ck2] using h2
  subst hlen
  simp only [ex] at h
  split at h
  case h_2 => exact h.elim
  rename_i x Sr
  obtain ⟨hi, h⟩ := h
  intro p l e s m args below meth c φ av ro D cy R cells slots Q H locs la X hR hE HD hS hl
  obtain ⟨hx, hb, hml, hown, hrt, hlk, hts, hK, hI, hX⟩ := id X
  rcases hi with hi | ⟨h81, h84⟩
  · have x81 := kd_lt hi (by omega)
    have hal : aln w x = al x := by unfold aln; rw [if_neg (by omega), if_neg (by omega), if_neg (by omega)]
    exact va_alen hx hb hK HD.1 x 0 (by rw [wl_get x81, cell_int hi]) rfl (v := Int32.ofNat (aln w x)) (by rw [hal]) hd (h p l e s m args below meth c φ av ro D cy R cells slots Q H locs la X hR hE HD hS hl)
  · obtain ⟨e1, e2⟩ := HD.2 x h81 h84
    exact va_tlen hx hb (hX.2.2.2.2.1 x h81 h84) hS (v := Int32.ofNat (aln w x)) (by rw [e2]) hd (h p l e s m args below meth c φ av ro D cy R cells slots Q H locs la X hR hE HD hS hl)
theorem ex_aaload (hc : ck M pc (.aaload, len, a, b, t, v) = true) (h : ex M (.aaload, len, a, b, t, v) L S w (fun L' S' w1 => Rn d M (pc + len) L' S' w1 r w')) : Rn d M pc L S w r w' := by
  obtain ⟨hd, h2⟩ := ck_e hc
  simp only [ck2, Bool.and_eq_true, Bool.or_eq_true, beq_iff_eq] at h2
  obtain ⟨hlen, ht⟩ := h2
  subst hlen
  simp only [ex] at h
  split at h
  case h_2 => exact h.elim
  rename_i i x Sr
  obtain ⟨⟨hi, hin⟩, y, hy, h⟩ := h
  intro p l e s m args below meth c φ av ro D cy R cells slots Q H locs la X hR hE HD hS hl
  obtain ⟨hx, hb, hml, hown, hrt, hlk, hts, hK, hI, hX⟩ := id X
  rcases ht with ht | ht
  · subst ht
    have := va_aldq hx hb hK HD.1 x 2 (a := φ x) (C := RX3) (n := al x) (f := fun j => (rfo x j).map φ) (by rw [wl_get (kd_lt hi (by omega)), cell_ref hi (by omega)]) rfl hin hd (ls := la) (rest := Sr.map (mv φ)) (below := below) (meth := meth) (args := args) (p := p) (l := l) (e := e) (R := R) (m := m) (locs := locs) (cells := cells) (slots := slots) (Q := Q)
    refine this ?_
    show W _ _ _ _ _ _ _ _ _ _ _ _ _ _ _ (F0 m (pc + 1) la (va_rf ((rfo x i.toNatClampNeg).map φ) :: Sr.map (mv φ)))
    rw [hy]
    exact (h p l e s m args below meth c φ av ro D cy R cells slots Q H locs la X hR hE HD hS hl)
  · subst ht
    have := va_aldq hx hb hK HD.1 x 3 (a := φ x) (C := RX6) (n := al x) (f := fun j => (rfo x j).map φ) (by rw [wl_get (kd_lt hi (by omega)), cell_ref hi (by omega)]) rfl hin hd (ls := la) (rest := Sr.map (mv φ)) (below := below) (meth := meth) (args := args) (p := p) (l := l) (e := e) (R := R) (m := m) (locs := locs) (cells := cells) (slots := slots) (Q := Q)
    refine this ?_
    show W _ _ _ _ _ _ _ _ _ _ _ _ _ _ _ (F0 m (pc + 1) la (va_rf ((rfo x i.toNatClampNeg).map φ) :: Sr.map (mv φ)))
    rw [hy]
    exact (h p l e s m args below meth c φ av ro D cy R cells slots Q H locs la X hR hE HD hS hl)
theorem ex_iastore (hc : ck M pc (.iastore, len, a, b, t, v) = true) (h : ex M (.iastore, len, a, b, t, v) L S w (fun L' S' w1 => Rn d M (pc + len) L' S' w1 r w')) : Rn d M pc L S w r w' := by
  obtain ⟨hd, h2⟩ := ck_e hc
  have hlen : len = 1 := by simpa [ck2] using h2
  subst hlen
  simp only [ex] at h
  split at h
  case h_2 => exact h.elim
  rename_i u i x Sr
  obtain ⟨⟨hi, hin⟩, h⟩ := h
  intro p l e s m args below meth c φ av ro D cy R cells slots Q H locs la X hR hE HD hS hl
  obtain ⟨hx, hb, hml, hown, hrt, hlk, hts, hK, hI, hX⟩ := id X
  have x81 := kd_lt hi (by omega)
  have hset : (wl φ cy w).set x (φ x, .inl (cy 0, (al x, .inl (upd (w.1 x) i.toNatClampNeg u)))) = wl φ cy (setI w x i.toNatClampNeg u) :=
    wl_set (by rw [cell_int hi, setI_s]) (fun k hk => cell_congr (setI_o hk) rfl)
  have hro : ∀ k, 81 ≤ k → k < 84 → (setI w x i.toNatClampNeg u).1 k = ro.1 k ∧ aln (setI w x i.toNatClampNeg u) k = aln ro k := fun k h1 h2 => by
    have e : k ≠ x := by omega
    unfold aln
    rw [setI_o e]
    exact HD.2 k h1 h2
  refine va_iast hx hb hK HD.1 (wl_D hI) hS x 0 (by rw [wl_get x81, cell_int hi]) rfl hin hd (fun H1 locs1 hP1 hD1 hS1 => ?_)
  have hP1 : va_P D cls9 ((wl φ cy w).set x (φ x, .inl (cy 0, (al x, .inl (upd (w.1 x) i.toNatClampNeg u))))) H1 := hP1
  rw [hset] at hP1
  exact h p l e s m args below meth c φ av ro D cy R cells slots Q H1 locs1 la X hR hE ⟨hP1, hro⟩ hS1 hl
theorem ex_lastore (hc : ck M pc (.lastore, len, a, b, t, v) = true) (h : ex M (.lastore, len, a, b, t, v) L S w (fun L' S' w1 => Rn d M (pc + len) L' S' w1 r w')) : Rn d M pc L S w r w' := by
  obtain ⟨hd, h2⟩ := ck_e hc
  have hlen : len = 1 := by simpa [ck2] using h2
  subst hlen
  simp only [ex] at h
  split at h
  case h_2 => exact h.elim
  rename_i u i x Sr
  obtain ⟨⟨hi, hin⟩, h⟩ := h
  intro p l e s m args below meth c φ av ro D cy R cells slots Q H locs la X hR hE HD hS hl
  obtain ⟨hx, hb, hml, hown, hrt, hlk, hts, hK, hI, hX⟩ := id X
  have x81 := kd_lt hi (by omega)
  have hset : (wl φ cy w).set x (φ x, .inl (cy 1, (al x, .inr (.inl (vp_updL (w.2.1 x) i.toNatClampNeg u))))) = wl φ cy (setL w x i.toNatClampNeg u) :=
    wl_set (by rw [cell_long hi, setL_s]) (fun k hk => cell_congr rfl (setL_o hk))
  refine va_last hx hb hK HD.1 (wl_D hI) hS x 1 (by rw [wl_get x81, cell_long hi]) rfl hin hd (fun H1 locs1 hP1 hD1 hS1 => ?_)
  have hP1 : va_P D cls9 ((wl φ cy w).set x (φ x, .inl (cy 1, (al x, .inr (.inl (vp_updL (w.2.1 x) i.toNatClampNeg u)))))) H1 := hP1
  rw [hset] at hP1
  exact h p l e s m args below meth c φ av ro D cy R cells slots Q H1 locs1 la X hR hE ⟨hP1, HD.2⟩ hS1 hl
theorem ex_invokestatic {n : Nat} (hc : ck M pc (.invokestatic n, len, a, b, t, v) = true) (h : ex M (.invokestatic n, len, a, b, t, v) L S w (fun L' S' w1 => Rn d M (pc + len) L' S' w1 r w')) : Rn d M pc L S w r w' := by
  obtain ⟨hd, h2⟩ := ck_e hc
  simp only [ck2, Bool.and_eq_true, Bool.or_eq_true, beq_iff_eq] at h2
  obtain ⟨⟨hlen, hv⟩, ht⟩ := h2
  subst hlen
  have hw := MLL_ok _ (List.contains_iff_mem.mp hv)
  simp only [ex] at h
  by_cases h3 : t = 3
  · subst h3
    rw [if_pos rfl] at h
    obtain ⟨x, y, Sr, rfl, hs, h⟩ := x2_e h
    intro p l e s m args below meth c φ av ro D cy R cells slots Q H locs la X hR hE HD hS hl
    obtain ⟨hx, hb, hml, hown, hrt, hlk, hts, hK, hI, hX⟩ := id X
    exact va_mmax hx hb (hml.trans hl.1.symm) hown (hts _ hw) (hts _ w_max.1) (hts _ w_max.2.1) (hts _ w_max.2.2) (Nat.le_trans (by omega) hR.1) (by rw [mv_sum]; exact Nat.le_trans (by omega) hR.2.1) hR.2.2.1 hR.2.2.2 hd (h p l e s m args below meth c φ av ro D cy R cells slots Q H locs la X hR hE HD hS hl)
  rw [if_neg h3] at h
  by_cases h4 : t = 4
  · subst h4
    rw [if_pos rfl] at h
    obtain ⟨x, y, Sr, rfl, hs, h⟩ := x2_e h
    intro p l e s m args below meth c φ av ro D cy R cells slots Q H locs la X hR hE HD hS hl
    obtain ⟨hx, hb, hml, hown, hrt, hlk, hts, hK, hI, hX⟩ := id X
    exact va_mmin hx hb (hml.trans hl.1.symm) hown (hts _ hw) (hts _ w_min.1) (hts _ w_min.2.1) (hts _ w_min.2.2) (Nat.le_trans (by omega) hR.1) (by rw [mv_sum]; exact Nat.le_trans (by omega) hR.2.1) hR.2.2.1 hR.2.2.2 hd (h p l e s m args below meth c φ av ro D cy R cells slots Q H locs la X hR hE HD hS hl)
  rw [if_neg h4] at h
  split at h
  case h_2 => exact h.elim
  rename_i z dp y sp x Sr
  obtain ⟨⟨hs, ⟨ka, kb⟩, q1, q2, q3, q4, q5⟩, h⟩ := h
  intro p l e s m args below meth c φ av ro D cy R cells slots Q H locs la X hR hE HD hS hl
  obtain ⟨hx, hb, hml, hown, hrt, hlk, hts, hK, hI, hX⟩ := id X
  have x81 := kd_lt ka (by omega)
  have y81 := kd_lt kb (by omega)
  have hloc : (List.map (fun v => v.category) (List.map (mv φ) Sr)).sum + (nativeFrameWords "java/lang/System" "arraycopy" 5 + 11) ≤ R.locals := by
    rw [mv_sum]
    refine Nat.le_trans ?_ hR.2.1
    show _ + ((5 + 2) + 11) ≤ 60 * (d + 1)
    omega
  by_cases h1 : t = 1
  · subst h1
    rw [if_pos rfl] at h
    have hset : (wl φ cy w).set y (φ y, .inl (cy 0, (al y, .inl (va_cpy (w.1 x) (w.1 y) sp.toNatClampNeg dp.toNatClampNeg z.toNatClampNeg)))) = wl φ cy (setA w y (va_cpy (w.1 x) (w.1 y) sp.toNatClampNeg dp.toNatClampNeg z.toNatClampNeg)) :=
      wl_set (by rw [cell_int kb, setA_s]) (fun k hk => cell_congr (setA_o hk) rfl)
    refine va_copyi hx hb (hml.trans hl.1.symm) hown (hts _ hw) (hts _ w_acn) (hts _ w_acs) (hts _ w_aci) hK HD.1 (wl_D hI) hS x y 0 0 (ty := .int) (by rw [wl_get x81, cell_int ka]) (by rw [wl_get y81, cell_int kb]) rfl rfl rfl q1 q2 q3 q4 q5 (fun i _ => rfl) (Nat.le_trans (by omega) hR.1) hloc hd (fun H1 locs1 hP1 hD1 hS1 => ?_)
    have hP1 : va_P D cls9 ((wl φ cy w).set y (φ y, .inl (cy 0, (al y, .inl (va_cpy (w.1 x) (w.1 y) sp.toNatClampNeg dp.toNatClampNeg z.toNatClampNeg))))) H1 := hP1
    rw [hset] at hP1
    refine h p l e s m args below meth c φ av ro D cy R cells slots Q H1 locs1 la X hR hE ⟨hP1, fun k h1 h2 => ?_⟩ hS1 hl
    have e : k ≠ y := by omega
    unfold aln
    rw [setA_o e]
    exact HD.2 k h1 h2
  · have h2 : t = 2 := by
      simp only [h1, h3, h4] at ht
      simpa using ht
    subst h2
    rw [if_neg h1] at h
    have hset : (wl φ cy w).set y (φ y, .inl (cy 1, (al y, .inr (.inl (va_cpy (w.2.1 x) (w.2.1 y) sp.toNatClampNeg dp.toNatClampNeg z.toNatClampNeg))))) = wl φ cy (setB w y (va_cpy (w.2.1 x) (w.2.1 y) sp.toNatClampNeg dp.toNatClampNeg z.toNatClampNeg)) :=
      wl_set (by rw [cell_long kb, setB_s]) (fun k hk => cell_congr rfl (setB_o hk))
    refine va_copyl hx hb (hml.trans hl.1.symm) hown (hts _ hw) (hts _ w_acn) (hts _ w_acs) (hts _ w_aci) hK HD.1 (wl_D hI) hS x y 1 1 (ty := .long) (by rw [wl_get x81, cell_long ka]) (by rw [wl_get y81, cell_long kb]) rfl rfl rfl q1 q2 q3 q4 q5 (fun i _ => rfl) (Nat.le_trans (by omega) hR.1) hloc hd (fun H1 locs1 hP1 hD1 hS1 => ?_)
    have hP1 : va_P D cls9 ((wl φ cy w).set y (φ y, .inl (cy 1, (al y, .inr (.inl (va_cpy (w.2.1 x) (w.2.1 y) sp.toNatClampNeg dp.toNatClampNeg z.toNatClampNeg)))))) H1 := hP1
    rw [hset] at hP1
    exact h p l e s m args below meth c φ av ro D cy R cells slots Q H1 locs1 la X hR hE ⟨hP1, HD.2⟩ hS1 hl
theorem ex_ok (o : Op) (hc : ck M pc o = true) (h : ex M o L S w (fun L' S' w1 => Rn d M (pc + o.2.1) L' S' w1 r w')) : Rn d M pc L S w r w' := by
  obtain ⟨i, len, a, b, t, v⟩ := o
  cases i
  case iconst => exact ex_iconst hc h
  case bipush => exact ex_bipush hc h
  case sipush => exact ex_sipush hc h
  case lconst => exact ex_lconst hc h
  case ldc_w => exact ex_ldc_w hc h
  case ldc => exact ex_ldc hc h
  case ldc2_w => exact ex_ldc2_w hc h
  case iload_n => exact ex_iload_n hc h
  case lload_n => exact ex_lload_n hc h
  case aload_n => exact ex_aload_n hc h
  case iload => exact ex_iload hc h
  case lload => exact ex_lload hc h
  case aload => exact ex_aload hc h
  case istore_n => exact ex_istore_n hc h
  case istore => exact ex_istore hc h
  case lstore_n => exact ex_lstore_n hc h
  case lstore => exact ex_lstore hc h
  case astore_n => exact ex_astore_n hc h
  case astore => exact ex_astore hc h
  case iinc => exact ex_iinc hc h
  case iadd => exact ex_iadd hc h
  case isub => exact ex_isub hc h
  case imul => exact ex_imul hc h
  case iand => exact ex_iand hc h
  case ior => exact ex_ior hc h
  case ixor => exact ex_ixor hc h
  case idiv => exact ex_idiv hc h
  case irem => exact ex_irem hc h
  case ineg => exact ex_ineg hc h
  case ishl => exact ex_ishl hc h
  case ishr => exact ex_ishr hc h
  case iushr => exact ex_iushr hc h
  case ladd => exact ex_ladd hc h
  case lsub => exact ex_lsub hc h
  case land => exact ex_land hc h
  case lor => exact ex_lor hc h
  case lcmp => exact ex_lcmp hc h
  case lshl => exact ex_lshl hc h
  case lushr => exact ex_lushr hc h
  case i2l => exact ex_i2l hc h
  case i2b => exact ex_i2b hc h
  case i2s => exact ex_i2s hc h
  case l2i => exact ex_l2i hc h
  case dup => exact ex_dup hc h
  case pop => exact ex_pop hc h
  case dup_x1 => exact ex_dup_x1 hc h
  case dup2 => exact ex_dup2 hc h
  case getstatic => exact ex_getstatic hc h
  case getfield => exact ex_getfield hc h
  case putfield => exact ex_putfield hc h
  case iaload => exact ex_iaload hc h
  case laload => exact ex_laload hc h
  case arraylength => exact ex_arraylength hc h
  case aaload => exact ex_aaload hc h
  case iastore => exact ex_iastore hc h
  case lastore => exact ex_lastore hc h
  case invokestatic => exact ex_invokestatic hc h
  all_goals exact h.elim
def exs (M : MT) : List Op → List (Option Value) → List Value → MW → KK → Prop
  | [], L, S, w, k => k L S w
  | o :: os, L, S, w, k => ex M o L S w (fun L S w => exs M os L S w k)
def cks (M : MT) : Nat → List Op → Bool
  | _, [] => true
  | pc, o :: os => ck M pc o && cks M (pc + o.2.1) os
def lns : List Op → Nat
  | [] => 0
  | o :: os => o.2.1 + lns os
end EX
