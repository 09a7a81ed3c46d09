/-! THE SMALL MACHINE: one world of 81 cells (0: the class' object .. 61; 62: the reference .. 80), read-only rows of ints at 81, 82, 83, texts at 84 .. 88 -/
abbrev MW : Type := (Nat → Nat → Int32) × (Nat → Nat → Int64) × Nat
def KD : List Nat := [7, 2, 12, 3, 3, 3, 3, 3, 3, 3, 3, 10, 2, 12, 3, 3, 3, 3, 3, 3, 3, 3, 10, 2, 12, 3, 3, 3, 3, 3, 3, 3, 3, 10, 13, 6, 11, 6, 11, 6, 11, 6, 11, 6, 11, 6, 11, 6, 11, 6, 11, 10, 5, 0, 10, 10, 10, 1, 10, 10, 4, 10, 8, 10, 10, 11, 10, 10, 10, 10, 10, 10, 10, 10, 10, 10, 10, 10, 10, 10, 10]
def AL : List Nat := [0, 0, 8, 0, 0, 0, 0, 0, 0, 0, 0, 30, 0, 8, 0, 0, 0, 0, 0, 0, 0, 0, 30, 0, 8, 0, 0, 0, 0, 0, 0, 0, 0, 30, 8, 0, 160, 0, 160, 0, 160, 0, 160, 0, 160, 0, 160, 0, 160, 0, 160, 8, 0, 0, 8, 8, 8, 0, 30, 8, 0, 20, 0, 8, 8, 1280, 8, 8, 8, 8, 8, 8, 30, 8, 20, 81, 81, 8, 8, 12, 3]
def RF : List (List (Option Nat)) := [[some 1, some 12, some 34, some 51, some 52, some 53, some 57, some 60, none, none], [some 2, none, some 11, none, none], [some 3, some 4, some 5, some 6, some 7, some 8, some 9, some 10], [none, none, none, none, none, none], [none, none, none, none, none, none], [none, none, none, none, none, none], [none, none, none, none, none, none], [none, none, none, none, none, none], [none, none, none, none, none, none], [none, none, none, none, none, none], [none, none, none, none, none, none], [], [some 13, none, some 22, none, none], [some 14, some 15, some 16, some 17, some 18, some 19, some 20, some 21], [none, none, none, none, none, none], [none, none, none, none, none, none], [none, none, none, none, none, none], [none, none, none, none, none, none], [none, none, none, none, none, none], [none, none, none, none, none, none], [none, none, none, none, none, none], [none, none, none, none, none, none], [], [some 24, none, some 33, none, none], [some 25, some 26, some 27, some 28, some 29, some 30, some 31, some 32], [none, none, none, none, none, none], [none, none, none, none, none, none], [none, none, none, none, none, none], [none, none, none, none, none, none], [none, none, none, none, none, none], [none, none, none, none, none, none], [none, none, none, none, none, none], [none, none, none, none, none, none], [], [some 35, some 37, some 39, some 41, some 43, some 45, some 47, some 49], [none, none, some 36], [], [none, none, some 38], [], [none, none, some 40], [], [none, none, some 42], [], [none, none, some 44], [], [none, none, some 46], [], [none, none, some 48], [], [none, none, some 50], [], [], [some 23, none, none, none], [some 54, some 55, some 56, none], [], [], [], [some 58, some 59], [], [], [some 61, none, none, none, none], [], [some 63, some 64, some 65, none, some 66, some 67, some 68, some 69, some 70, some 71, none, some 72, none, none, some 73, none, some 74, none, some 75, some 76, some 77, some 78, some 79, none, none, some 80], [], [], [], [], [], [], [], [], [], [], [], [], [], [], [], [], [], []]
def kd (a : Nat) : Nat := KD.getD a 99
def al (a : Nat) : Nat := AL.getD a 0
def rfo (a j : Nat) : Option Nat := (RF.getD a []).getD j none
/-- the length of a row of ints -/
def aln (w : MW) (a : Nat) : Nat := if a = 81 then 7 else if a = 82 then 21 else if a = 83 then w.2.2 else al a
def mv (φ : Nat → Nat) : Value → Value
  | .ref a => .ref (φ a)
  | v => v
theorem mv_int (φ : Nat → Nat) (x : Int32) : mv φ (.int x) = .int x := rfl
theorem mv_cat (φ : Nat → Nat) (v : Value) : (mv φ v).category = v.category := by cases v <;> rfl
def fval (φ : Nat → Nat) (w : MW) (a j : Nat) : Value := match rfo a j with
  | some b => .ref (φ b)
  | none => .int (w.1 a j)
def cell (φ : Nat → Nat) (cy : Nat → ClassId) (w : MW) (a : Nat) : va_E :=
  if kd a < 9 then .inr (kd a, (List.range (cN (kd a))).map (fval φ w a))
  else if kd a = 10 then .inl (cy 0, (al a, .inl (w.1 a)))
  else if kd a = 11 then .inl (cy 1, (al a, .inr (.inl (w.2.1 a))))
  else .inl (cy (kd a - 10), (al a, .inr (.inr (.inr (.inr fun j => (rfo a j).map φ)))))
def wl (φ : Nat → Nat) (cy : Nat → ClassId) (w : MW) : va_W := (List.range 81).map (fun a => (φ a, cell φ cy w a))
abbrev tys (cy : Nat → ClassId) : List (ClassId × FieldType) := [(cy 0, .int), (cy 1, .long), (cy 2, .object RX3), (cy 3, .object RX6)]
theorem wl_get {φ : Nat → Nat} {cy : Nat → ClassId} {w : MW} {a : Nat} (h : a < 81) : (wl φ cy w)[a]? = some (φ a, cell φ cy w a) := by
  simp [wl, h]
theorem wl_len {φ : Nat → Nat} {cy : Nat → ClassId} {w : MW} : (wl φ cy w).length = 81 := by simp [wl]
theorem wl_set {φ : Nat → Nat} {cy : Nat → ClassId} {w w' : MW} {a : Nat} {e : va_E} (he : cell φ cy w' a = e) (hk : ∀ k, k ≠ a → cell φ cy w' k = cell φ cy w k) : (wl φ cy w).set a (φ a, e) = wl φ cy w' := by
  subst he
  apply List.ext_getElem?
  intro i
  rw [List.getElem?_set]
  by_cases hi : i < 81
  · rw [wl_get hi]
    by_cases h : a = i
    · subst h
      rw [if_pos rfl, if_pos (by rw [wl_len]; exact hi), wl_get hi]
    · rw [if_neg h, wl_get hi, hk i (fun e => h e.symm)]
  · have h1 : (wl φ cy w')[i]? = none := List.getElem?_eq_none (by rw [wl_len]; omega)
    have h2 : (wl φ cy w)[i]? = none := List.getElem?_eq_none (by rw [wl_len]; omega)
    rw [h1, h2]
    by_cases h : a = i
    · rw [if_pos h, if_neg (by rw [wl_len]; omega)]
    · rw [if_neg h]
def setI (w : MW) (a j : Nat) (v : Int32) : MW := (fun k => if k = a then upd (w.1 a) j v else w.1 k, w.2)
def setL (w : MW) (a j : Nat) (v : Int64) : MW := (w.1, fun k => if k = a then vp_updL (w.2.1 a) j v else w.2.1 k, w.2.2)
def setA (w : MW) (a : Nat) (f : Nat → Int32) : MW := (fun k => if k = a then f else w.1 k, w.2)
def setB (w : MW) (a : Nat) (f : Nat → Int64) : MW := (w.1, fun k => if k = a then f else w.2.1 k, w.2.2)
theorem setI_o {w : MW} {a j : Nat} {v : Int32} {k : Nat} (h : k ≠ a) : (setI w a j v).1 k = w.1 k := by simp [setI, h]
theorem setI_s {w : MW} {a j : Nat} {v : Int32} : (setI w a j v).1 a = upd (w.1 a) j v := by simp [setI]
theorem setA_o {w : MW} {a : Nat} {f : Nat → Int32} {k : Nat} (h : k ≠ a) : (setA w a f).1 k = w.1 k := by simp [setA, h]
theorem setA_s {w : MW} {a : Nat} {f : Nat → Int32} : (setA w a f).1 a = f := by simp [setA]
theorem setL_o {w : MW} {a j : Nat} {v : Int64} {k : Nat} (h : k ≠ a) : (setL w a j v).2.1 k = w.2.1 k := by simp [setL, h]
theorem setL_s {w : MW} {a j : Nat} {v : Int64} : (setL w a j v).2.1 a = vp_updL (w.2.1 a) j v := by simp [setL]
theorem setB_o {w : MW} {a : Nat} {f : Nat → Int64} {k : Nat} (h : k ≠ a) : (setB w a f).2.1 k = w.2.1 k := by simp [setB, h]
theorem setB_s {w : MW} {a : Nat} {f : Nat → Int64} : (setB w a f).2.1 a = f := by simp [setB]
theorem cell_congr {φ : Nat → Nat} {cy : Nat → ClassId} {w w' : MW} {k : Nat} (h1 : w'.1 k = w.1 k) (h2 : w'.2.1 k = w.2.1 k) : cell φ cy w' k = cell φ cy w k := by
  have hf : fval φ w' k = fval φ w k := by
    funext j
    unfold fval
    rw [h1]
  unfold cell
  rw [h1, h2, hf]
theorem cell_obj {φ : Nat → Nat} {cy : Nat → ClassId} {w : MW} {a ci : Nat} (hk : kd a = ci) (hc : ci < 9) : cell φ cy w a = .inr (ci, (List.range (cN ci)).map (fval φ w a)) := by
  unfold cell
  rw [if_pos (by omega), hk]
theorem cell_int {φ : Nat → Nat} {cy : Nat → ClassId} {w : MW} {a : Nat} (hk : kd a = 10) : cell φ cy w a = .inl (cy 0, (al a, .inl (w.1 a))) := by
  unfold cell
  rw [if_neg (by omega), if_pos hk]
theorem cell_long {φ : Nat → Nat} {cy : Nat → ClassId} {w : MW} {a : Nat} (hk : kd a = 11) : cell φ cy w a = .inl (cy 1, (al a, .inr (.inl (w.2.1 a)))) := by
  unfold cell
  rw [if_neg (by omega), if_neg (by omega), if_pos hk]
theorem cell_ref {φ : Nat → Nat} {cy : Nat → ClassId} {w : MW} {a k : Nat} (hk : kd a = 10 + k) (h2 : 2 ≤ k) : cell φ cy w a = .inl (cy k, (al a, .inr (.inr (.inr (.inr fun j => (rfo a j).map φ))))) := by
  unfold cell
  rw [if_neg (by omega), if_neg (by omega), if_neg (by omega), show kd a - 10 = k by omega]
theorem fs_set {φ : Nat → Nat} {w : MW} {a j n : Nat} {v : Int32} (hr : rfo a j = none) : ((List.range n).map (fval φ w a)).set j (.int v) = (List.range n).map (fval φ (setI w a j v) a) := by
  apply List.ext_getElem?
  intro i
  rw [List.getElem?_set]
  by_cases hi : i < n
  · by_cases h : j = i
    · subst h
      simp [hi, fval, hr, setI, upd]
    · rw [if_neg h]
      simp [hi]
      unfold fval
      cases hq : rfo a i with
      | some b => rfl
      | none =>
        show Value.int _ = Value.int _
        rw [setI_s]
        simp [upd]
        exact fun e => absurd e.symm h
  · by_cases h : j = i
    · subst h
      simp [hi]
    · simp [h, hi]
theorem fs_get {φ : Nat → Nat} {w : MW} {a j n : Nat} (hj : j < n) : ((List.range n).map (fval φ w a))[j]? = some (fval φ w a j) := by simp [hj]
/-- the world's cells, that may change -/
def AS (φ : Nat → Nat) : Nat → Prop := fun q => ∃ k, k < 81 ∧ φ k = q
/-- the heap holds the world -/
def Hd (φ : Nat → Nat) (D : va_G) (cy : Nat → ClassId) (ro w : MW) (H : Heap) : Prop :=
  va_P D cls9 (wl φ cy w) H ∧ ∀ k, 81 ≤ k → k < 84 → w.1 k = ro.1 k ∧ aln w k = aln ro k
theorem wl_D {φ : Nat → Nat} {cy : Nat → ClassId} {w : MW} (hi : ∀ i j, i < 81 → j < 81 → φ i = φ j → i = j) : va_D (AS φ) (wl φ cy w) := by
  have key : ∀ (k : Nat) (q : Nat × va_E), (wl φ cy w)[k]? = some q → k < 81 ∧ q.1 = φ k := by
    intro k q h
    have hk : k < 81 := by
      have := (List.getElem?_eq_some_iff.mp h).1
      rwa [wl_len] at this
    rw [wl_get hk] at h
    cases h
    exact ⟨hk, rfl⟩
  refine ⟨fun i j p q h1 h2 e => ?_, fun k q h => ?_⟩
  · obtain ⟨a1, b1⟩ := key i p h1
    obtain ⟨a2, b2⟩ := key j q h2
    exact hi i j a1 a2 (by rw [← b1, ← b2]; exact e)
  · obtain ⟨a1, b1⟩ := key k q h
    exact ⟨k, a1, b1.symm⟩
/-- what stands beside the world, of a state's tables and of cells that nobody writes -/
def XT (φ av : Nat → Nat) (ro : MW) (U : State) (H : Heap) : Prop :=
  (∀ w ∈ lw_tbl.filter nestWord, va_Nw w U) ∧ (∀ r, r = 81 ∨ r = 82 → va_Z "EveryonesThirdWord" (gsN r) "[I" (.ref (φ r)) (AS φ) U H) ∧ (∀ t ∈ STL, vk_R (RN t.1) t.2.1 t.2.2.2 (φ t.2.2.1) U) ∧
    vk_S 5 [3, 4, 4, 4, 4] [[109, 97, 110], [109, 101, 101, 116], [112, 97, 114, 116], [119, 111, 114, 100], [104, 117, 115, 104]] (fun i => φ (84 + i)) (fun i => φ (89 + i)) (AS φ) U H ∧ (∀ k, 81 ≤ k → k < 84 → va_T .int (φ k) (aln ro k) (fun j => .int (ro.1 k j)) (AS φ) U H) ∧
    va_Z "java/lang/String" "COMPACT_STRINGS" "Z" (.int 1) (AS φ) U H ∧ (va_Z "jdk/internal/util/Preconditions" "SIOOBE_FORMATTER" "Ljava/util/function/BiFunction;" .null (AS φ) U H ∨ va_Z "jdk/internal/util/Preconditions" "SIOOBE_FORMATTER" "Ljava/util/function/BiFunction;" (.ref (φ 94)) (AS φ) U H)
def Inj (φ : Nat → Nat) : Prop := ∀ i j, i < 81 → j < 81 → φ i = φ j → i = j
/-- a method's context -/
def CX (M : MT) (φ av : Nat → Nat) (ro : MW) (D : va_G) (cy : Nat → ClassId) (p : Program) (s : State) (m : MethodId) (args : Array Value) (meth : Method) (c : Code) : Prop :=
  p.tables.exec = Jvm.exec ∧ c.code = M.2.2.1 ∧ c.maxLocals = M.2.2.2.1 ∧ s.vm.findClass (RN M.1) = some m.cls ∧ meth.sig.returnType = M.2.2.2.2 ∧ meth.locks = false ∧
    (∀ w ∈ GW, w.before args s = true) ∧ va_K D cls9 (tys cy) s ∧ Inj φ ∧ XT φ av ro s s.heap
def asc (φ : Nat → Nat) : Nat → List (Option Value) → List (Nat × Value)
  | _, [] => []
  | i, none :: r => asc φ (i + 1) r
  | i, some v :: r => (i, mv φ v) :: asc φ (i + 1) r
theorem asc_mem {φ : Nat → Nat} : ∀ (L : List (Option Value)) (k : Nat) (q : Nat × Value), q ∈ asc φ k L ↔ ∃ i v, L.getD i none = some v ∧ q = (k + i, mv φ v) := by
  intro L
  induction L with
  | nil => intro k q; simp [asc]
  | cons a L ih =>
    intro k q
    cases a with
    | none =>
      show q ∈ asc φ (k + 1) L ↔ _
      rw [ih]
      constructor
      · rintro ⟨i, v, h1, h2⟩
        exact ⟨i + 1, v, by simpa using h1, by rw [h2]; congr 1; omega⟩
      · rintro ⟨i, v, h1, h2⟩
        cases i with
        | zero => simp at h1
        | succ i => exact ⟨i, v, by simpa using h1, by rw [h2]; congr 1; omega⟩
    | some u =>
      show q ∈ (k, mv φ u) :: asc φ (k + 1) L ↔ _
      rw [List.mem_cons, ih]
      constructor
      · rintro (h | ⟨i, v, h1, h2⟩)
        · exact ⟨0, u, by simp, by rw [h]; simp⟩
        · exact ⟨i + 1, v, by simpa using h1, by rw [h2]; congr 1; omega⟩
      · rintro ⟨i, v, h1, h2⟩
        cases i with
        | zero => left; simp at h1; rw [h2, h1]; simp
        | succ i => right; exact ⟨i, v, by simpa using h1, by rw [h2]; congr 1; omega⟩
def rmD (d : Nat) : Room := { frames := d, cells := 0, slots := 0, locals := 60 * d }
def Qd (φ : Nat → Nat) (D : va_G) (cy : Nat → ClassId) (ro : MW) (r : Option Value) (w' : MW) : Array Value → State → Outcome → State → Prop := fun _ st oc t =>
  (oc = .returned (r.map (mv φ)) ∧ Hd φ D cy ro w' t.heap) ∧ va_F (AS φ) st t
/-- the room of a method at depth d, of which some is used -/
def RO (d : Nat) (R : Room) (cells slots : Nat) : Prop := d + 1 ≤ R.frames ∧ 60 * (d + 1) ≤ R.locals ∧ cells ≤ R.cells ∧ slots ≤ R.slots
/-- a return with this answer -/
def isRet (M : MT) (r : Option Value) (i : Instr) : Prop := match r with
  | none => i = .return_ ∧ M.2.2.2.2 = none
  | some (.int v) => i = .ireturn ∧ ∃ ty, M.2.2.2.2 = some ty ∧ narrow ty (.int v) = .int v
  | some (.long _) => i = .lreturn ∧ M.2.2.2.2 = some .long
  | some (.ref _) => i = .areturn ∧ ∃ n, M.2.2.2.2 = some (.object n)
  | _ => False
/-- from here the machine comes to the method's end, with r and the world w' -/
def Rn (d : Nat) (M : MT) (pc : Nat) (L : List (Option Value)) (S : List Value) (w : MW) (r : Option Value) (w' : MW) : Prop :=
  ∀ (p : Program) (l : Launch) (e : Env) (s : State) (m : MethodId) (args : Array Value) (below : List Frame) (meth : Method) (c : Code) (φ av : Nat → Nat) (ro : MW) (D : va_G) (cy : Nat → ClassId) (R : Room) (cells slots : Nat) (Q : State → Prop) (H : Heap) (locs : List Loc) (la : Array Slot),
    CX M φ av ro D cy p s m args meth c → RO d R cells slots →
    (∀ (H : Heap) (locs : List Loc) (la : Array Slot) (pc : Nat) (i : Instr), Hd φ D cy ro w' H → va_S (AS φ) s.heap H locs → decode M.2.2.1 pc = .ok (i, 1) → isRet M r i → W p l e R s m args below meth c H locs cells slots Q (F0 m pc la (r.toList.map (mv φ)))) →
    Hd φ D cy ro w H → va_S (AS φ) s.heap H locs → lv_has la M.2.2.2.1 (asc φ 0 L) →
    W p l e R s m args below meth c H locs cells slots Q (F0 m pc la (S.map (mv φ)))
/-- a contract -/
def Ct (d : Nat) (M : MT) (as : List Value) (w : MW) (r : Option Value) (w' : MW) : Prop :=
  ∀ (l : Launch) (φ av : Nat → Nat) (ro : MW) (D : va_G) (cy : Nat → ClassId), Met l M.2.1 (UW M) (rmD (d + 1)) (va_Pc (as.map (mv φ)) (fun U => Hd φ D cy ro w U.heap ∧ va_K D cls9 (tys cy) U ∧ Inj φ ∧ XT φ av ro U U.heap)) (Qd φ D cy ro r w') 0 0 (AS φ)
