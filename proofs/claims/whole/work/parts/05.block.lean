/-! blocks -/
theorem x1_m {S : List Value} {k k' : Int32 → List Value → Prop} (h : x1 S k) (hk : ∀ x R, k x R → k' x R) : x1 S k' := by
  obtain ⟨x, R, rfl, h⟩ := x1_e h
  exact hk _ _ h
theorem x2_m {S : List Value} {k k' : Int32 → Int32 → List Value → Prop} (h : x2 S k) (hk : ∀ x y R, k x y R → k' x y R) : x2 S k' := by
  obtain ⟨x, y, R, rfl, h⟩ := x2_e h
  exact hk _ _ _ h
theorem y2_m {S : List Value} {k k' : Int64 → Int64 → List Value → Prop} (h : y2 S k) (hk : ∀ x y R, k x y R → k' x y R) : y2 S k' := by
  obtain ⟨x, y, R, rfl, h⟩ := y2_e h
  exact hk _ _ _ h
theorem ldI_m {i : Nat} {L : List (Option Value)} {k k' : Int32 → Prop} (h : ldI i L k) (hk : ∀ x, k x → k' x) : ldI i L k' := by
  obtain ⟨x, h1, h⟩ := ldI_e h
  simp only [ldI, h1]
  exact hk _ h
theorem ldJ_m {i : Nat} {L : List (Option Value)} {k k' : Int64 → Prop} (h : ldJ i L k) (hk : ∀ x, k x → k' x) : ldJ i L k' := by
  obtain ⟨x, h1, h⟩ := ldJ_e h
  simp only [ldJ, h1]
  exact hk _ h
theorem ldA_m {i : Nat} {L : List (Option Value)} {k k' : Nat → Prop} (h : ldA i L k) (hk : ∀ x, k x → k' x) : ldA i L k' := by
  obtain ⟨x, h1, h⟩ := ldA_e h
  simp only [ldA, h1]
  exact hk _ h
theorem ex_mono {M : MT} {o : Op} {L : List (Option Value)} {S : List Value} {w : MW} {k1 k2 : KK} (hk : ∀ L S w, k1 L S w → k2 L S w) (hx : ex M o L S w k1) : ex M o L S w k2 := by
  obtain ⟨i, len, a, b, t, v⟩ := o
  cases i
  case iconst => exact hk _ _ _ hx
  case bipush => exact hk _ _ _ hx
  case sipush => exact hk _ _ _ hx
  case lconst => exact hk _ _ _ hx
  case ldc_w => exact hk _ _ _ hx
  case getstatic => exact hk _ _ _ hx
  case ldc =>
    simp only [ex] at hx ⊢
    by_cases h0 : t = 0
    · rw [if_pos h0] at hx ⊢; exact hk _ _ _ hx
    · rw [if_neg h0] at hx ⊢; exact hk _ _ _ hx
  case ldc2_w n =>
    simp only [ex] at hx ⊢
    cases hc : clf M.1 n with
    | none => rw [hc] at hx; exact hx.elim
    | some x => rw [hc] at hx; exact hk _ _ _ hx
  case iload_n => exact ldI_m hx (fun _ q => hk _ _ _ q)
  case iload => exact ldI_m hx (fun _ q => hk _ _ _ q)
  case lload_n => exact ldJ_m hx (fun _ q => hk _ _ _ q)
  case lload => exact ldJ_m hx (fun _ q => hk _ _ _ q)
  case aload_n => exact ldA_m hx (fun _ q => hk _ _ _ q)
  case aload => exact ldA_m hx (fun _ q => hk _ _ _ q)
  case iinc => exact ldI_m hx (fun _ q => hk _ _ _ q)
  case istore_n => exact x1_m hx (fun _ _ q => ⟨q.1, hk _ _ _ q.2⟩)
  case istore => exact x1_m hx (fun _ _ q => ⟨q.1, hk _ _ _ q.2⟩)
  case iadd => exact x2_m hx (fun _ _ _ q => hk _ _ _ q)
  case isub => exact x2_m hx (fun _ _ _ q => hk _ _ _ q)
  case imul => exact x2_m hx (fun _ _ _ q => hk _ _ _ q)
  case iand => exact x2_m hx (fun _ _ _ q => hk _ _ _ q)
  case ior => exact x2_m hx (fun _ _ _ q => hk _ _ _ q)
  case ixor => exact x2_m hx (fun _ _ _ q => hk _ _ _ q)
  case ishl => exact x2_m hx (fun _ _ _ q => hk _ _ _ q)
  case ishr => exact x2_m hx (fun _ _ _ q => hk _ _ _ q)
  case iushr => exact x2_m hx (fun _ _ _ q => hk _ _ _ q)
  case idiv => exact x2_m hx (fun _ _ _ q => ⟨q.1, hk _ _ _ q.2⟩)
  case irem => exact x2_m hx (fun _ _ _ q => ⟨q.1, hk _ _ _ q.2⟩)
  case ineg => exact x1_m hx (fun _ _ q => hk _ _ _ q)
  case i2l => exact x1_m hx (fun _ _ q => hk _ _ _ q)
  case i2b => exact x1_m hx (fun _ _ q => hk _ _ _ q)
  case i2s => exact x1_m hx (fun _ _ q => hk _ _ _ q)
  case ladd => exact y2_m hx (fun _ _ _ q => hk _ _ _ q)
  case lsub => exact y2_m hx (fun _ _ _ q => hk _ _ _ q)
  case land => exact y2_m hx (fun _ _ _ q => hk _ _ _ q)
  case lor => exact y2_m hx (fun _ _ _ q => hk _ _ _ q)
  case lcmp => exact y2_m hx (fun _ _ _ q => hk _ _ _ q)
  case lstore_n =>
    simp only [ex] at hx ⊢
    split at hx
    case h_2 => exact hx.elim
    exact ⟨hx.1, hk _ _ _ hx.2⟩
  case lstore =>
    simp only [ex] at hx ⊢
    split at hx
    case h_2 => exact hx.elim
    exact ⟨hx.1, hk _ _ _ hx.2⟩
  case astore_n =>
    simp only [ex] at hx ⊢
    split at hx
    case h_2 => exact hx.elim
    exact ⟨hx.1, hk _ _ _ hx.2⟩
  case astore =>
    simp only [ex] at hx ⊢
    split at hx
    case h_2 => exact hx.elim
    exact ⟨hx.1, hk _ _ _ hx.2⟩
  case lshl =>
    simp only [ex] at hx ⊢
    split at hx
    case h_2 => exact hx.elim
    exact hk _ _ _ hx
  case lushr =>
    simp only [ex] at hx ⊢
    split at hx
    case h_2 => exact hx.elim
    exact hk _ _ _ hx
  case l2i =>
    simp only [ex] at hx ⊢
    split at hx
    case h_2 => exact hx.elim
    exact hk _ _ _ hx
  case dup =>
    simp only [ex] at hx ⊢
    split at hx
    case h_2 => exact hx.elim
    exact ⟨hx.1, hk _ _ _ hx.2⟩
  case pop =>
    simp only [ex] at hx ⊢
    split at hx
    case h_2 => exact hx.elim
    exact ⟨hx.1, hk _ _ _ hx.2⟩
  case dup_x1 =>
    simp only [ex] at hx ⊢
    split at hx
    case h_2 => exact hx.elim
    exact ⟨hx.1, hk _ _ _ hx.2⟩
  case dup2 =>
    simp only [ex] at hx ⊢
    split at hx
    case h_2 => exact hx.elim
    exact ⟨hx.1, hk _ _ _ hx.2⟩
  case putfield =>
    simp only [ex] at hx ⊢
    split at hx
    case h_2 => exact hx.elim
    exact ⟨hx.1, hk _ _ _ hx.2⟩
  case iaload =>
    simp only [ex] at hx ⊢
    split at hx
    case h_2 => exact hx.elim
    exact ⟨hx.1, hk _ _ _ hx.2⟩
  case laload =>
    simp only [ex] at hx ⊢
    split at hx
    case h_2 => exact hx.elim
    exact ⟨hx.1, hk _ _ _ hx.2⟩
  case iastore =>
    simp only [ex] at hx ⊢
    split at hx
    case h_2 => exact hx.elim
    exact ⟨hx.1, hk _ _ _ hx.2⟩
  case lastore =>
    simp only [ex] at hx ⊢
    split at hx
    case h_2 => exact hx.elim
    exact ⟨hx.1, hk _ _ _ hx.2⟩
  case arraylength =>
    simp only [ex] at hx ⊢
    split at hx
    case h_2 => exact hx.elim
    exact ⟨hx.1, hk _ _ _ hx.2⟩
  case aaload =>
    simp only [ex] at hx ⊢
    split at hx
    case h_2 => exact hx.elim
    exact ⟨hx.1, hx.2.choose, hx.2.choose_spec.1, hk _ _ _ hx.2.choose_spec.2⟩
  case getfield =>
    simp only [ex] at hx ⊢
    split at hx
    case h_2 => exact hx.elim
    by_cases h0 : t = 1
    · rw [if_pos h0] at hx ⊢; exact ⟨hx.choose, hx.choose_spec.1, hk _ _ _ hx.choose_spec.2⟩
    · rw [if_neg h0] at hx ⊢; exact ⟨hx.1, hk _ _ _ hx.2⟩
  case invokestatic =>
    simp only [ex] at hx ⊢
    by_cases h3 : t = 3
    · rw [if_pos h3] at hx ⊢; exact x2_m hx (fun _ _ _ q => ⟨q.1, hk _ _ _ q.2⟩)
    rw [if_neg h3] at hx ⊢
    by_cases h4 : t = 4
    · rw [if_pos h4] at hx ⊢; exact x2_m hx (fun _ _ _ q => ⟨q.1, hk _ _ _ q.2⟩)
    rw [if_neg h4] at hx ⊢
    split at hx
    case h_2 => exact hx.elim
    exact ⟨hx.1, hk _ _ _ hx.2⟩
  all_goals exact hx.elim
theorem exs_ok {d : Nat} {M : MT} {w' : MW} {r : Option Value} : ∀ (os : List Op) (pc : Nat) (L : List (Option Value)) (S : List Value) (w : MW), cks M pc os = true → exs M os L S w (fun L S w => Rn d M (pc + lns os) L S w r w') → Rn d M pc L S w r w' := by
  intro os
  induction os with
  | nil => intro pc L S w _ h; exact h
  | cons o os ih =>
    intro pc L S w hc h
    have h1 := Bool.and_eq_true_iff.mp hc
    refine ex_ok o h1.1 (ex_mono (fun L S w hx => ih (pc + o.2.1) L S w h1.2 ?_) h)
    have e : pc + o.2.1 + lns os = pc + lns (o :: os) := by show _ = pc + (o.2.1 + lns os); omega
    rw [e]
    exact hx
theorem Rn.blk {d : Nat} {M : MT} {w' : MW} {r : Option Value} {pc : Nat} {L : List (Option Value)} {S : List Value} {w : MW} (os : List Op) (pc2 : Nat) (hc : cks M pc os = true) (hp : pc + lns os = pc2) (h : exs M os L S w (fun L S w => Rn d M pc2 L S w r w')) : Rn d M pc L S w r w' := by
  subst hp
  exact exs_ok os pc L S w hc h
/-- a switch's case that isn't told -/
theorem tab_out {x : Int32} {lo hi : Int} (h : ∀ i : Int, lo ≤ i → i ≤ hi → ¬ x.toInt = i) : x.toInt < lo ∨ hi < x.toInt := by
  rcases Int.lt_or_le x.toInt lo with q | q
  · exact Or.inl q
  rcases Int.lt_or_le hi x.toInt with z | z
  · exact Or.inr z
  exact absurd rfl (h _ q z)
/-- a call of a method of a text -/
theorem Rn.callt {d : Nat} {M N : MT} {pc i : Nat} {L : List (Option Value)} {S as : List Value} {w w1 w' : MW} {r r1 : Option Value} (hv : IVV M.1 i N) (hN : MOK N) {b : Nat} (hs : 84 ≤ b ∧ b < 89) (hcl : "java/lang/String" = N.2.1.cls) {n : Nat} (hd2 : (parseMethodDescriptor N.2.1.desc).map (fun q => q.parameters.length) = some n) (hn : as.length = n) (hsum : (S.map fun v => v.category).sum ≤ 8)
    (hd : decode M.2.2.1 pc = .ok (.invokevirtual i, 3)) (ct : Ct d N (.ref b :: as) w r1 w1) (k : Rn (d + 1) M (pc + 3) L (r1.toList ++ S) w1 r w') : Rn (d + 1) M pc L (as.reverse ++ .ref b :: S) w r w' := by
  intro p l e s m args below meth c φ av ro D cy R cells slots Q H locs la X hR hE HD hS hl
  obtain ⟨hx, hb, hml, hown, hrt, hlk, hts, hK, hI, hX⟩ := id X
  rw [map_rev]
  have hrc := vk_recv (i := b - 84) hX.2.2.2.1 (by omega) hS
  rw [show 84 + (b - 84) = b by omega] at hrc
  have hGV : GoodIn GW (wsV (RN M.1) i "java/lang/String" N.2.1 (UW N)) := GW_GoodIn (fun w hw => by
    rcases List.mem_append.mp hw with h | h
    · rcases List.mem_cons.mp h with h | h
      · rw [h]; exact hv.1
      rcases List.mem_cons.mp h with h | h
      · rw [h]; exact hv.2.1
      rcases List.mem_cons.mp h with h | h
      · rw [h, hcl]; exact hv.2.2
      rcases List.mem_cons.mp h with h | h
      · rw [h, hcl]; exact hN.2.1
      · cases h
    · rcases List.mem_cons.mp h with h | h
      · rw [h]; exact hN.1
      · exact h)
  refine va_callD (B := fun oc t => oc = .returned (r1.map (mv φ)) ∧ Hd φ D cy ro w1 t.heap) (va_runV (n := n) (Ts := GW) (As := as.map (mv φ)) (rest := S.map (mv φ)) (b := φ b) (C := "java/lang/String") ⟨hx, hb, hml, hown, hts⟩ (ct l φ av ro D cy)
    (cwV (ws' := GW) n hts hGV rfl rfl rfl ⟨hcl.symm, hN.2.2.2.2.1, hN.2.2.2.2.2.1, hd2⟩ (rm_fits hN hR))
    ⟨Pre_blind, hrc, fun U hU hW => ⟨rfl, by rw [hU]; exact HD, hK.moved hW.alike, hI, hX.call hS hU hW⟩⟩ rfl (by rw [List.length_map]; exact hn) hl.1 rfl (by show 2 * 0 + _ ≤ 8; rw [mv_sum]; omega) hd ⟨hR.2.2.1, hR.2.2.2⟩) hS (fun q _ h => h) (fun q h => h) (fun v t H1 locs1 ht ha hB hS1 => ?_)
  obtain ⟨hv2, hH⟩ := hB
  cases hv2
  rw [show (Option.map (mv φ) r1).toList ++ S.map (mv φ) = (r1.toList ++ S).map (mv φ) by cases r1 <;> simp]
  exact k p l e s m args below meth c φ av ro D cy R cells slots Q H1 locs1 la X hR hE (by rw [← ht]; exact hH) hS1 hl
/-- fewer places told -/
def wk : List (Option Value) → List (Option Value) → Prop
  | [], _ => True
  | none :: L', L => wk L' L.tail
  | some v :: L', L => L.head? = some (some v) ∧ wk L' L.tail
theorem wk_ok : ∀ (L' L : List (Option Value)), wk L' L → ∀ i v, L'.getD i none = some v → L.getD i none = some v := by
  intro L'
  induction L' with
  | nil => intro L _ i v h; simp at h
  | cons a L' ih =>
    intro L h i v hv
    cases a with
    | none =>
      cases i with
      | zero => simp at hv
      | succ i =>
        have := ih L.tail h i v (by simpa using hv)
        cases L with
        | nil => simp at this
        | cons b L => simpa using this
    | some u =>
      obtain ⟨h1, h2⟩ := h
      cases L with
      | nil => simp at h1
      | cons b L =>
        cases i with
        | zero =>
          simp at hv h1 ⊢
          rw [h1, hv]
        | succ i => simpa using ih L h2 i v (by simpa using hv)
theorem Rn.wk {d : Nat} {M : MT} {w w' : MW} {r : Option Value} {pc : Nat} {L L' : List (Option Value)} {S : List Value} (h : wk L' L) (k : Rn d M pc L' S w r w') : Rn d M pc L S w r w' := Rn.loc (wk_ok L' L h) k
/-- builders -/
abbrev ush (x y : Int32) : Int32 := (x.toUInt32 >>> (y.toUInt32 &&& Int32.toUInt32 31)).toInt32
abbrev lush (x : Int64) (y : Int32) : Int64 := (x.toUInt64 >>> (y.toInt64.toUInt64 &&& Int64.toUInt64 63)).toInt64
abbrev o0 (i : Instr) : Op := (i, 1, 0, 0, 0, 0)
abbrev oN (i : Instr) (n : Nat) : Op := (i, n, 0, 0, 0, 0)
abbrev oV (i : Instr) (n : Nat) (v : Int32) : Op := (i, n, 0, 0, 0, v)
abbrev oF (i : Instr) (a b t : Nat) : Op := (i, 3, a, b, t, 0)
abbrev oT (i : Instr) (n t : Nat) : Op := (i, n, 0, 0, t, 0)
