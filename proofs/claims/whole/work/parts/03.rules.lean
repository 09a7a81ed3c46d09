/-! THE RULES: start, calls, returns, branches -/
theorem AS_mono {φ : Nat → Nat} {q : Nat} (h : AS φ q) : AS φ q := h
theorem va_S.keep {A : Nat → Prop} {H0 H : Heap} {locs : List Loc} (h : va_S A H0 H locs) : ∀ a : Nat, a < H0.size → ¬ A a → H[a]? = H0[a]? := h.2.1
theorem nest_cases {w : Cond} (h : w ∈ lw_tbl.filter nestWord) : (∃ a i x g, w = .methodLinkNest a i x g) ∨ (∃ a i b n d g, w = .fieldLinkNest a i b n d g) := by
  have h2 := (List.mem_filter.mp h).2
  cases w <;> first | exact Or.inl ⟨_, _, _, _, rfl⟩ | exact Or.inr ⟨_, _, _, _, _, _, rfl⟩ | (exact absurd h2 (by simp [nestWord]))
/-- what stands beside the world, at a call -/
theorem XT.call {φ av : Nat → Nat} {ro : MW} {s U : State} {H : Heap} {locs : List Loc} (h : XT φ av ro s s.heap) (hS : va_S (AS φ) s.heap H locs) (hU : U.heap = H) (hW : s.WarmedH U.vm) : XT φ av ro U U.heap := by
  obtain ⟨h1, h2, h3, h4, h5, h6, h7⟩ := h
  rw [hU]
  refine ⟨fun w hw => ?_, fun r hr => ((h2 r hr).moved hW.alike).kept hS.2.1, fun t ht => (h3 t ht).warm hW, (h4.moved hW.alike).kept hS.2.1, fun k q1 q2 => ((h5 k q1 q2).moved hW.alike).kept hS.2.1, (h6.moved hW.alike).kept hS.2.1, h7.elim (fun z => Or.inl ((z.moved hW.alike).kept hS.2.1)) (fun z => Or.inr ((z.moved hW.alike).kept hS.2.1))⟩
  rcases nest_cases hw with ⟨_, _, _, _, rfl⟩ | ⟨_, _, _, _, _, _, rfl⟩
  · exact va_Nw.warmM hW (h1 _ hw)
  · exact va_Nw.warmF hW (h1 _ hw)
theorem XT.frame {φ av : Nat → Nat} {ro : MW} {U V : State} (hv : U.vm = V.vm) (hh : U.heap = V.heap) (h : XT φ av ro U U.heap) : XT φ av ro V V.heap := by
  obtain ⟨h1, h2, h3, h4, h5, h6, h7⟩ := h
  have ha : U.vm.Alike V.vm := by rw [hv]; exact Vm.Alike.refl _
  rw [← hh]
  refine ⟨fun w hw => ?_, fun r hr => (h2 r hr).moved ha, fun t ht => (h3 t ht).same hv.symm, h4.moved ha, fun k q1 q2 => (h5 k q1 q2).moved ha, h6.moved ha, h7.elim (fun z => Or.inl (z.moved ha)) (fun z => Or.inr (z.moved ha))⟩
  rcases nest_cases hw with ⟨_, _, _, _, rfl⟩ | ⟨_, _, _, _, _, _, rfl⟩
  · exact va_Nw.same rfl hv (h1 _ hw)
  · exact va_Nw.same rfl hv (h1 _ hw)
theorem argsL_sub {φ : Nat → Nat} : ∀ (as : List Value) (k : Nat) (L : List (Option Value)), (∀ q ∈ asc φ k L, q ∈ lv_args k (as.map (mv φ))) → ∀ q ∈ asc φ k L, q ∈ lv_args k (as.map (mv φ)) := fun _ _ _ h => h
def argL : List Value → List (Option Value)
  | [] => []
  | .long x :: r => some (.long x) :: none :: argL r
  | .double x :: r => some (.double x) :: none :: argL r
  | v :: r => some v :: argL r
theorem argL_in {φ : Nat → Nat} : ∀ (as : List Value) (k : Nat), ∀ q ∈ asc φ k (argL as), q ∈ lv_args k (as.map (mv φ)) := by
  intro as
  induction as with
  | nil => intro k q h; exact h
  | cons v r ih =>
    intro k q h
    have one : ∀ v : Value, v.category = 1 → argL (v :: r) = some v :: argL r → q ∈ asc φ k (argL (v :: r)) → q ∈ lv_args k ((v :: r).map (mv φ)) := by
      intro v hc he h
      rw [he] at h
      show q ∈ (k, mv φ v) :: lv_args (if (mv φ v).category = 2 then k + 2 else k + 1) (r.map (mv φ))
      rw [mv_cat, hc, if_neg (by decide)]
      rcases List.mem_cons.mp h with h | h
      · exact List.mem_cons.mpr (Or.inl h)
      · exact List.mem_cons.mpr (Or.inr (ih _ q h))
    cases v with
    | long x =>
      rcases List.mem_cons.mp h with h | h
      · exact List.mem_cons.mpr (Or.inl h)
      · exact List.mem_cons.mpr (Or.inr (ih _ q h))
    | double x =>
      rcases List.mem_cons.mp h with h | h
      · exact List.mem_cons.mpr (Or.inl h)
      · exact List.mem_cons.mpr (Or.inr (ih _ q h))
    | int x => exact one _ rfl rfl h
    | float x => exact one _ rfl rfl h
    | null => exact one _ rfl rfl h
    | ref x => exact one _ rfl rfl h
    | retAddr x => exact one _ rfl rfl h
theorem lv_mono {ls : Array Slot} {nL : Nat} {l l' : List (Nat × Value)} (h : lv_has ls nL l) (hs : ∀ q ∈ l', q ∈ l) : lv_has ls nL l' := ⟨h.1, h.2.1, fun q hq => h.2.2 q (hs q hq)⟩
/-- places not told yet -/
theorem asc_pad {φ : Nat → Nat} (L : List (Option Value)) : ∀ (n k : Nat), ∀ q ∈ asc φ k (L ++ List.replicate n none), q ∈ asc φ k L := by
  intro n k q h
  rw [asc_mem] at h ⊢
  obtain ⟨i, v, h1, h2⟩ := h
  refine ⟨i, v, ?_, h2⟩
  rw [List.getD_eq_getElem?_getD] at h1 ⊢
  by_cases hi : i < L.length
  · rw [List.getElem?_append_left hi] at h1
    exact h1
  · rw [List.getElem?_append_right (by omega), List.getElem?_replicate] at h1
    split at h1 <;> cases h1
/-- a method's world at its end -/
theorem Qd_end {φ : Nat → Nat} {D : va_G} {cy : Nat → ClassId} {ro : MW} {r : Option Value} {w' : MW} {args : Array Value} {s t : State} {H : Heap} {locs : List Loc} (HD : Hd φ D cy ro w' H) (hS : va_S (AS φ) s.heap H locs) (ht : t.heap = H) (hW : s.WarmedH t.vm) : Qd φ D cy ro r w' args s (.returned (r.map (mv φ))) t :=
  ⟨⟨rfl, by rw [ht]; exact HD⟩, hS.F ht⟩
/-- the end of a method -/
theorem ret_W {p : Program} {l : Launch} {e : Env} {R : Room} {s : State} {m : MethodId} {args : Array Value} {below : List Frame} {meth : Method} {c : Code} {φ : Nat → Nat} {ro : MW} {D : va_G} {cy : Nat → ClassId} {M : MT} {r : Option Value} {w' : MW} {cells slots : Nat} {H : Heap} {locs : List Loc} {la : Array Slot} {pc : Nat} {i : Instr} (hx : p.tables.exec = Jvm.exec) (hb : c.code = M.2.2.1) (hrt : meth.sig.returnType = M.2.2.2.2) (hlk : meth.locks = false) (HD : Hd φ D cy ro w' H) (hS : va_S (AS φ) s.heap H locs) (hd : decode M.2.2.1 pc = .ok (i, 1)) (hi : isRet M r i) :
    W p l e R s m args below meth c H locs cells slots (MQ below (Qd φ D cy ro r w') args s cells slots (AS φ)) (F0 m pc la (r.toList.map (mv φ))) := by
  cases r with
  | none =>
    obtain ⟨rfl, hr⟩ := hi
    exact W.vret hx hb (hrt.trans hr) (fun t ht hW => Qd_end HD hS ht hW) hS.2.2 hd hlk
  | some v =>
    cases v with
    | int v =>
      obtain ⟨rfl, ty, hr, hn⟩ := hi
      exact W.zret hx hb (hrt.trans hr) hn (fun t ht hW => Qd_end HD hS ht hW) hS.2.2 hd hlk
    | long v =>
      obtain ⟨rfl, hr⟩ := hi
      exact W.lret hx hb (hrt.trans hr) (fun t ht hW => Qd_end HD hS ht hW) hS.2.2 hd hlk
    | ref v =>
      obtain ⟨rfl, n, hr⟩ := hi
      exact W.aret hx hb (hrt.trans hr) (Or.inl ⟨n, rfl⟩) (Or.inr ⟨φ v, rfl⟩) (fun t ht hW => Qd_end HD hS ht hW) hS.2.2 hd hlk
    | float v => exact hi.elim
    | double v => exact hi.elim
    | null => exact hi.elim
    | retAddr v => exact hi.elim
/-- the start of a method -/
theorem Ct.of {d : Nat} {M : MT} {as : List Value} {w w' : MW} {r : Option Value} (n : Nat) (hok : MOK M) (hlen : (lg_sl (as.map (mv id))).length ≤ M.2.2.2.1) (h : Rn d M 0 (argL as ++ List.replicate n none) [] w r w') : Ct d M as w r w' := by
  intro l φ av ro D cy
  obtain ⟨h1, h2, h3, h4, h5, h6, h7⟩ := hok
  refine Met.ofW (cc := M.2.2.1) (maxL := M.2.2.2.1) (ret := M.2.2.2.2) h3 rfl ?_
  intro p e s m args below meth c s₁ B hml hv
  obtain ⟨rfl, hH, hK, hI, hX⟩ := hv
  have hts := atoms_spec (ws := UW M) B.pre
  have hown : s.vm.findClass (RN M.1) = some m.cls := by rw [← h4]; exact findClass_of_methodNamed B.named
  have hsl : ∀ as : List Value, (lg_sl (as.map (mv φ))).length = (lg_sl (as.map (mv id))).length := by
    intro as
    induction as with
    | nil => rfl
    | cons v r ih =>
      simp only [List.map_cons, lg_sl, List.flatMap_cons, List.length_append] at ih ⊢
      rw [ih, mv_cat, mv_cat]
      by_cases hc : v.category = 2 <;> simp [hc]
  rw [lg_entry_eq]
  refine h p l e s m _ below meth c φ av ro D cy (rmD (d + 1)) 0 0 _ s.heap [] _ ⟨B.exec, B.bytes, hml, hown, B.returns, B.notSynchronized, fun w hw => hts w (List.mem_cons_of_mem _ hw), hK, hI, hX⟩ ⟨Nat.le_refl _, Nat.le_refl _, Nat.le_refl _, Nat.le_refl _⟩ ?_ hH va_S.rf ?_
  · intro H locs la pc i HD hS hd hi
    exact ret_W B.exec B.bytes B.returns B.notSynchronized HD hS hd hi
  exact lv_mono (lv_entry (as.map (mv φ)) (by rw [hsl]; exact hlen)) (fun q hq => argL_in as 0 q (asc_pad _ _ _ q hq))
section RET
variable {d : Nat} {M : MT} {pc : Nat} {L : List (Option Value)} {w : MW}
theorem Rn.iret {v : Int32} {ty : FieldType} (hr : M.2.2.2.2 = some ty) (hn : narrow ty (.int v) = .int v) (hd : decode M.2.2.1 pc = .ok (.ireturn, 1)) : Rn d M pc L [.int v] w (some (.int v)) w := by
  intro p l e s m args below meth c φ av ro D cy R cells slots Q H locs la X hR hE HD hS hl
  exact hE H locs la pc _ HD hS hd ⟨rfl, ty, hr, hn⟩
theorem Rn.lret {v : Int64} (hr : M.2.2.2.2 = some .long) (hd : decode M.2.2.1 pc = .ok (.lreturn, 1)) : Rn d M pc L [.long v] w (some (.long v)) w := by
  intro p l e s m args below meth c φ av ro D cy R cells slots Q H locs la X hR hE HD hS hl
  exact hE H locs la pc _ HD hS hd ⟨rfl, hr⟩
theorem Rn.aret {v : Nat} {n : String} (hr : M.2.2.2.2 = some (.object n)) (hd : decode M.2.2.1 pc = .ok (.areturn, 1)) : Rn d M pc L [.ref v] w (some (.ref v)) w := by
  intro p l e s m args below meth c φ av ro D cy R cells slots Q H locs la X hR hE HD hS hl
  exact hE H locs la pc _ HD hS hd ⟨rfl, n, hr⟩
theorem Rn.vret (hr : M.2.2.2.2 = none) (hd : decode M.2.2.1 pc = .ok (.return_, 1)) : Rn d M pc L [] w none w := by
  intro p l e s m args below meth c φ av ro D cy R cells slots Q H locs la X hR hE HD hS hl
  exact hE H locs la pc _ HD hS hd ⟨rfl, hr⟩
end RET
section BR
variable {d : Nat} {M : MT} {pc tgt : Nat} {L : List (Option Value)} {S : List Value} {w w' : MW} {r : Option Value} {off : Int}
theorem Rn.goto (hd : decode M.2.2.1 pc = .ok (.goto off, 3)) (ht : (pc : Int) + off = (tgt : Int)) (k : Rn d M tgt L S w r w') : Rn d M pc L S w r w' := by
  intro p l e s m args below meth c φ av ro D cy R cells slots Q H locs la X hR hE HD hS hl
  exact lv_goto X.1 X.2.1 hd ht (k p l e s m args below meth c φ av ro D cy R cells slots Q H locs la X hR hE HD hS hl)
/-- fewer places of the locals -/
theorem Rn.loc {L' : List (Option Value)} (h : ∀ i v, L'.getD i none = some v → L.getD i none = some v) (k : Rn d M pc L' S w r w') : Rn d M pc L S w r w' := by
  intro p l e s m args below meth c φ av ro D cy R cells slots Q H locs la X hR hE HD hS hl
  refine k p l e s m args below meth c φ av ro D cy R cells slots Q H locs la X hR hE HD hS (lv_mono hl (fun q hq => ?_))
  rw [asc_mem] at hq ⊢
  obtain ⟨i, v, h1, h2⟩ := hq
  exact ⟨i, v, h i v h1, h2⟩
theorem Rn.icmp_eq {x y : Int32} (hd : decode M.2.2.1 pc = .ok (.if_icmp .eq off, 3)) (ht : (pc : Int) + off = (tgt : Int)) (kt : x = y → Rn d M tgt L S w r w') (kf : ¬ x = y → Rn d M (pc + 3) L S w r w') : Rn d M pc L (.int y :: .int x :: S) w r w' := by
  intro p l e s m args below meth c φ av ro D cy R cells slots Q H locs la X hR hE HD hS hl
  exact lv_icmp_eq X.1 X.2.1 hd ht (fun q => kt q p l e s m args below meth c φ av ro D cy R cells slots Q H locs la X hR hE HD hS hl) (fun q => kf q p l e s m args below meth c φ av ro D cy R cells slots Q H locs la X hR hE HD hS hl)
theorem Rn.if_eq {x : Int32} (hd : decode M.2.2.1 pc = .ok (.ifCond .eq off, 3)) (ht : (pc : Int) + off = (tgt : Int)) (kt : x = 0 → Rn d M tgt L S w r w') (kf : ¬ x = 0 → Rn d M (pc + 3) L S w r w') : Rn d M pc L (.int x :: S) w r w' := by
  intro p l e s m args below meth c φ av ro D cy R cells slots Q H locs la X hR hE HD hS hl
  exact lv_if_eq X.1 X.2.1 hd ht (fun q => kt q p l e s m args below meth c φ av ro D cy R cells slots Q H locs la X hR hE HD hS hl) (fun q => kf q p l e s m args below meth c φ av ro D cy R cells slots Q H locs la X hR hE HD hS hl)
theorem Rn.icmp_ne {x y : Int32} (hd : decode M.2.2.1 pc = .ok (.if_icmp .ne off, 3)) (ht : (pc : Int) + off = (tgt : Int)) (kt : ¬ x = y → Rn d M tgt L S w r w') (kf : x = y → Rn d M (pc + 3) L S w r w') : Rn d M pc L (.int y :: .int x :: S) w r w' := by
  intro p l e s m args below meth c φ av ro D cy R cells slots Q H locs la X hR hE HD hS hl
  exact lv_icmp_ne X.1 X.2.1 hd ht (fun q => kt q p l e s m args below meth c φ av ro D cy R cells slots Q H locs la X hR hE HD hS hl) (fun q => kf q p l e s m args below meth c φ av ro D cy R cells slots Q H locs la X hR hE HD hS hl)
theorem Rn.if_ne {x : Int32} (hd : decode M.2.2.1 pc = .ok (.ifCond .ne off, 3)) (ht : (pc : Int) + off = (tgt : Int)) (kt : ¬ x = 0 → Rn d M tgt L S w r w') (kf : x = 0 → Rn d M (pc + 3) L S w r w') : Rn d M pc L (.int x :: S) w r w' := by
  intro p l e s m args below meth c φ av ro D cy R cells slots Q H locs la X hR hE HD hS hl
  exact lv_if_ne X.1 X.2.1 hd ht (fun q => kt q p l e s m args below meth c φ av ro D cy R cells slots Q H locs la X hR hE HD hS hl) (fun q => kf q p l e s m args below meth c φ av ro D cy R cells slots Q H locs la X hR hE HD hS hl)
theorem Rn.icmp_lt {x y : Int32} (hd : decode M.2.2.1 pc = .ok (.if_icmp .lt off, 3)) (ht : (pc : Int) + off = (tgt : Int)) (kt : x < y → Rn d M tgt L S w r w') (kf : ¬ x < y → Rn d M (pc + 3) L S w r w') : Rn d M pc L (.int y :: .int x :: S) w r w' := by
  intro p l e s m args below meth c φ av ro D cy R cells slots Q H locs la X hR hE HD hS hl
  exact lv_icmp_lt X.1 X.2.1 hd ht (fun q => kt q p l e s m args below meth c φ av ro D cy R cells slots Q H locs la X hR hE HD hS hl) (fun q => kf q p l e s m args below meth c φ av ro D cy R cells slots Q H locs la X hR hE HD hS hl)
theorem Rn.if_lt {x : Int32} (hd : decode M.2.2.1 pc = .ok (.ifCond .lt off, 3)) (ht : (pc : Int) + off = (tgt : Int)) (kt : x < 0 → Rn d M tgt L S w r w') (kf : ¬ x < 0 → Rn d M (pc + 3) L S w r w') : Rn d M pc L (.int x :: S) w r w' := by
  intro p l e s m args below meth c φ av ro D cy R cells slots Q H locs la X hR hE HD hS hl
  exact lv_if_lt X.1 X.2.1 hd ht (fun q => kt q p l e s m args below meth c φ av ro D cy R cells slots Q H locs la X hR hE HD hS hl) (fun q => kf q p l e s m args below meth c φ av ro D cy R cells slots Q H locs la X hR hE HD hS hl)
theorem Rn.icmp_ge {x y : Int32} (hd : decode M.2.2.1 pc = .ok (.if_icmp .ge off, 3)) (ht : (pc : Int) + off = (tgt : Int)) (kt : y ≤ x → Rn d M tgt L S w r w') (kf : ¬ y ≤ x → Rn d M (pc + 3) L S w r w') : Rn d M pc L (.int y :: .int x :: S) w r w' := by
  intro p l e s m args below meth c φ av ro D cy R cells slots Q H locs la X hR hE HD hS hl
  exact lv_icmp_ge X.1 X.2.1 hd ht (fun q => kt q p l e s m args below meth c φ av ro D cy R cells slots Q H locs la X hR hE HD hS hl) (fun q => kf q p l e s m args below meth c φ av ro D cy R cells slots Q H locs la X hR hE HD hS hl)
theorem Rn.if_ge {x : Int32} (hd : decode M.2.2.1 pc = .ok (.ifCond .ge off, 3)) (ht : (pc : Int) + off = (tgt : Int)) (kt : 0 ≤ x → Rn d M tgt L S w r w') (kf : ¬ 0 ≤ x → Rn d M (pc + 3) L S w r w') : Rn d M pc L (.int x :: S) w r w' := by
  intro p l e s m args below meth c φ av ro D cy R cells slots Q H locs la X hR hE HD hS hl
  exact lv_if_ge X.1 X.2.1 hd ht (fun q => kt q p l e s m args below meth c φ av ro D cy R cells slots Q H locs la X hR hE HD hS hl) (fun q => kf q p l e s m args below meth c φ av ro D cy R cells slots Q H locs la X hR hE HD hS hl)
theorem Rn.icmp_gt {x y : Int32} (hd : decode M.2.2.1 pc = .ok (.if_icmp .gt off, 3)) (ht : (pc : Int) + off = (tgt : Int)) (kt : y < x → Rn d M tgt L S w r w') (kf : ¬ y < x → Rn d M (pc + 3) L S w r w') : Rn d M pc L (.int y :: .int x :: S) w r w' := by
  intro p l e s m args below meth c φ av ro D cy R cells slots Q H locs la X hR hE HD hS hl
  exact lv_icmp_gt X.1 X.2.1 hd ht (fun q => kt q p l e s m args below meth c φ av ro D cy R cells slots Q H locs la X hR hE HD hS hl) (fun q => kf q p l e s m args below meth c φ av ro D cy R cells slots Q H locs la X hR hE HD hS hl)
theorem Rn.if_gt {x : Int32} (hd : decode M.2.2.1 pc = .ok (.ifCond .gt off, 3)) (ht : (pc : Int) + off = (tgt : Int)) (kt : 0 < x → Rn d M tgt L S w r w') (kf : ¬ 0 < x → Rn d M (pc + 3) L S w r w') : Rn d M pc L (.int x :: S) w r w' := by
  intro p l e s m args below meth c φ av ro D cy R cells slots Q H locs la X hR hE HD hS hl
  exact lv_if_gt X.1 X.2.1 hd ht (fun q => kt q p l e s m args below meth c φ av ro D cy R cells slots Q H locs la X hR hE HD hS hl) (fun q => kf q p l e s m args below meth c φ av ro D cy R cells slots Q H locs la X hR hE HD hS hl)
theorem Rn.icmp_le {x y : Int32} (hd : decode M.2.2.1 pc = .ok (.if_icmp .le off, 3)) (ht : (pc : Int) + off = (tgt : Int)) (kt : x ≤ y → Rn d M tgt L S w r w') (kf : ¬ x ≤ y → Rn d M (pc + 3) L S w r w') : Rn d M pc L (.int y :: .int x :: S) w r w' := by
  intro p l e s m args below meth c φ av ro D cy R cells slots Q H locs la X hR hE HD hS hl
  exact lv_icmp_le X.1 X.2.1 hd ht (fun q => kt q p l e s m args below meth c φ av ro D cy R cells slots Q H locs la X hR hE HD hS hl) (fun q => kf q p l e s m args below meth c φ av ro D cy R cells slots Q H locs la X hR hE HD hS hl)
theorem Rn.if_le {x : Int32} (hd : decode M.2.2.1 pc = .ok (.ifCond .le off, 3)) (ht : (pc : Int) + off = (tgt : Int)) (kt : x ≤ 0 → Rn d M tgt L S w r w') (kf : ¬ x ≤ 0 → Rn d M (pc + 3) L S w r w') : Rn d M pc L (.int x :: S) w r w' := by
  intro p l e s m args below meth c φ av ro D cy R cells slots Q H locs la X hR hE HD hS hl
  exact lv_if_le X.1 X.2.1 hd ht (fun q => kt q p l e s m args below meth c φ av ro D cy R cells slots Q H locs la X hR hE HD hS hl) (fun q => kf q p l e s m args below meth c φ av ro D cy R cells slots Q H locs la X hR hE HD hS hl)
theorem Rn.look {dflt : Int} {ps : Array (Int × Int)} {len : Nat} {x : Int32} (hd : decode M.2.2.1 pc = .ok (.lookupswitch dflt ps, len)) (hp : (ps.toList.zip (ps.toList.drop 1)).all (fun (a, next) => a.1 < next.1) = true) (ho : Op.lookupswitch.offset ps.toList dflt x.toInt = off) (ht : (pc : Int) + off = (tgt : Int)) (k : Rn d M tgt L S w r w') : Rn d M pc L (.int x :: S) w r w' := by
  intro p l e s m args below meth c φ av ro D cy R cells slots Q H locs la X hR hE HD hS hl
  exact lv_lookup X.1 X.2.1 hd hp ho ht (k p l e s m args below meth c φ av ro D cy R cells slots Q H locs la X hR hE HD hS hl)
theorem Rn.tabOut {dflt lo hi : Int} {offs : Array Int} {len : Nat} {x : Int32} (hd : decode M.2.2.1 pc = .ok (.tableswitch dflt lo hi offs, len)) (h : x.toInt < lo ∨ hi < x.toInt) (ht : (pc : Int) + dflt = (tgt : Int)) (k : Rn d M tgt L S w r w') : Rn d M pc L (.int x :: S) w r w' := by
  intro p l e s m args below meth c φ av ro D cy R cells slots Q H locs la X hR hE HD hS hl
  exact lv_tableOut X.1 X.2.1 hd h ht (k p l e s m args below meth c φ av ro D cy R cells slots Q H locs la X hR hE HD hS hl)
theorem Rn.tabIn {dflt lo hi : Int} {offs : Array Int} {len : Nat} {x : Int32} (hd : decode M.2.2.1 pc = .ok (.tableswitch dflt lo hi offs, len)) (h1 : ¬ x.toInt < lo) (h2 : ¬ hi < x.toInt) (ho : offs[(x.toInt - lo).toNat]? = some off) (ht : (pc : Int) + off = (tgt : Int)) (k : Rn d M tgt L S w r w') : Rn d M pc L (.int x :: S) w r w' := by
  intro p l e s m args below meth c φ av ro D cy R cells slots Q H locs la X hR hE HD hS hl
  exact lv_tableIn X.1 X.2.1 hd h1 h2 ho ht (k p l e s m args below meth c φ av ro D cy R cells slots Q H locs la X hR hE HD hS hl)
end BR
/-! calls -/
section CALL
variable {p : Program} {l : Launch} {e : Env} {R : Room} {s : State} {m : MethodId} {args : Array Value} {below : List Frame} {meth : Method} {c : Code} {H : Heap} {locs : List Loc} {cells slots : Nat} {Q : State → Prop}
theorem va_callD {pc : Nat} {ls : Array Slot} {rest st0 : List Value} {A0 A1 : Nat → Prop} {H0 : Heap} {mc ms : Nat} {free : Addr → Prop} {B : Outcome → State → Prop} (hr : va_Run p l e R s m args below meth c H locs cells slots mc ms (F0 m pc ls st0) rest (fun st oc t => B oc t ∧ va_F A1 st t) free) (hS : va_S A0 H0 H locs) (hA : ∀ q, q < H.size → A1 q → A0 q) (hf : ∀ q, free q → A0 q)
    (kk : ∀ (v : Option Value) (t : State) (H1 : Heap) (locs1 : List Loc), t.heap = H1 → s.vm.Alike t.vm → B (.returned v) t → va_S A0 H0 H1 locs1 → W p l e R s m args below meth c H1 locs1 (cells + mc) (slots + ms) Q (F0 m (pc + 3) ls (v.toList ++ rest))) : W p l e R s m args below meth c H locs cells slots Q (F0 m pc ls st0) := by
  intro T hT X
  obtain ⟨v, st₀, t, T', L, h0, X', hL, e1, e2, ⟨hb, hz, hk⟩, st⟩ := hr T hT X
  rw [h0] at hz hk
  obtain ⟨t2, a1, b1⟩ := kk v t T'.heap (locs ++ L) e1.symm (by rw [← e2]; exact X'.warmed.alike) hb
    ⟨Nat.le_trans hS.1 (by rw [e1]; exact hz), fun q h1 h2 => by rw [e1, hk q (Nat.lt_of_lt_of_le h1 hS.1) (fun z => h2 (hA q (Nat.lt_of_lt_of_le h1 hS.1) z))]; exact hS.2.1 q h1 h2, fun q hq => by
      rcases List.mem_append.mp hq with h | h
      · exact hS.2.2 q h
      · exact hf _ (hL q h)⟩ T' rfl X'
  exact ⟨t2, st t2 a1, b1⟩
end CALL
theorem Pre_blind {φ av : Nat → Nat} {ro : MW} {D : va_G} {cy : Nat → ClassId} {w : MW} {as : List Value} : FrameBlind (va_Pc as (fun U => Hd φ D cy ro w U.heap ∧ va_K D cls9 (tys cy) U ∧ Inj φ ∧ XT φ av ro U U.heap)) := by
  intro a U g mk q
  obtain ⟨q0, q1, q2, q3, q4⟩ := q
  exact ⟨q0, q1, va_K.moved (u := U) (U := U.calling g mk a) (Vm.Alike.refl U.vm) q2, q3, XT.frame (U := U) (V := U.calling g mk a) rfl rfl q4⟩
theorem map_rev {φ : Nat → Nat} (as S : List Value) : (as.reverse ++ S).map (mv φ) = (as.map (mv φ)).reverse ++ S.map (mv φ) := by rw [List.map_append, List.map_reverse]
theorem mv_sum {φ : Nat → Nat} (S : List Value) : ((S.map (mv φ)).map fun v => v.category).sum = (S.map fun v => v.category).sum := by
  rw [List.map_map]
  congr 1
  apply List.map_congr_left
  intro v _
  exact mv_cat φ v
section RCALL
variable {d : Nat} {M N : MT} {pc i : Nat} {L : List (Option Value)} {S as : List Value} {w w1 w' : MW} {r r1 : Option Value}
theorem rm_fits {R : Room} {cells slots : Nat} (hN : MOK N) (hR : RO (d + 1) R cells slots) : (rmD (d + 1)).frames + 1 ≤ R.frames ∧ 8 + (N.2.2.2.1 + 11) + (rmD (d + 1)).locals ≤ R.locals := by
  have := hN.2.2.2.2.2.2
  refine ⟨hR.1, Nat.le_trans ?_ hR.2.1⟩
  show 8 + (N.2.2.2.1 + 11) + 60 * (d + 1) ≤ 60 * (d + 1 + 1)
  omega
/-- a virtual call of a method of an object of the world -/
theorem Rn.callv (hv : IVV M.1 i N) (hN : MOK N) {b ci : Nat} (hk : kd b = ci) (hc : ci < 9 := by decide) (hb8 : b < 81 := by decide) (hcl : RN ci = N.2.1.cls := by rfl) {n : Nat} (hd2 : (parseMethodDescriptor N.2.1.desc).map (fun q => q.parameters.length) = some n) (hn : as.length = n) (hsum : (S.map fun v => v.category).sum ≤ 8)
    (hd : decode M.2.2.1 pc = .ok (.invokevirtual i, 3)) (ct : Ct d N (.ref b :: as) w r1 w1) (k : Rn (d + 1) M (pc + 3) L (r1.toList ++ S) w1 r w') : Rn (d + 1) M pc L (as.reverse ++ .ref b :: S) w r w' := by
  intro p l e s m args below meth c φ av ro D cy R cells slots Q H locs la X hR hE HD hS hl
  obtain ⟨hx, hb, hml, hown, hrt, hlk, hts, hK, hI, hX⟩ := id X
  rw [map_rev]
  have hcb : cls9[ci]? = some (RN ci, cT ci, cN ci) := by
    rcases (show ci = 0 ∨ ci = 1 ∨ ci = 2 ∨ ci = 3 ∨ ci = 4 ∨ ci = 5 ∨ ci = 6 ∨ ci = 7 ∨ ci = 8 by omega) with h | h | h | h | h | h | h | h | h <;> (subst h; rfl)
  have he : (wl φ cy w)[b]? = some (φ b, .inr (ci, (List.range (cN ci)).map (fval φ w b))) := by rw [wl_get hb8, cell_obj hk hc]
  have hGV : GoodIn GW (wsV (RN M.1) i (RN ci) N.2.1 (UW N)) := GW_GoodIn (fun w hw => by
    rcases List.mem_append.mp hw with h | h
    · rcases List.mem_cons.mp h with h | h
      · rw [h]; exact hv.1
      rcases List.mem_cons.mp h with h | h
      · rw [h]; exact hv.2.1
      rcases List.mem_cons.mp h with h | h
      · rw [h, hcl]; exact hv.2.2
      rcases List.mem_cons.mp h with h | h
      · rw [h, hcl]; exact hN.2.1
      · cases h
    · rcases List.mem_cons.mp h with h | h
      · rw [h]; exact hN.1
      · exact h)
  refine va_callD (B := fun oc t => oc = .returned (r1.map (mv φ)) ∧ Hd φ D cy ro w1 t.heap) (va_runV (n := n) (Ts := GW) (As := as.map (mv φ)) (rest := S.map (mv φ)) (b := φ b) (C := RN ci) ⟨hx, hb, hml, hown, hts⟩ (ct l φ av ro D cy)
    (cwV (ws' := GW) n hts hGV rfl rfl rfl ⟨hcl.symm, hN.2.2.2.2.1, hN.2.2.2.2.2.1, hd2⟩ (rm_fits hN hR))
    ⟨Pre_blind, va_recv hK HD.1 hcb he, fun U hU hW => ⟨rfl, by rw [hU]; exact HD, hK.moved hW.alike, hI, hX.call hS hU hW⟩⟩ rfl (by rw [List.length_map]; exact hn) hl.1 rfl (by show 2 * 0 + _ ≤ 8; rw [mv_sum]; omega) hd ⟨hR.2.2.1, hR.2.2.2⟩) hS (fun q _ h => h) (fun q h => h) (fun v t H1 locs1 ht ha hB hS1 => ?_)
  obtain ⟨hv2, hH⟩ := hB
  cases hv2
  rw [show (Option.map (mv φ) r1).toList ++ S.map (mv φ) = (r1.toList ++ S).map (mv φ) by cases r1 <;> simp]
  exact k p l e s m args below meth c φ av ro D cy R cells slots Q H1 locs1 la X hR hE (by rw [← ht]; exact hH) hS1 hl
/-- a static call -/
theorem Rn.calls (hv : IVS M.1 i N) (hN : MOK N) {n : Nat} (hd2 : (parseMethodDescriptor N.2.1.desc).map (fun q => q.parameters.length) = some n) (hn : as.length = n) (hsum : (S.map fun v => v.category).sum ≤ 8)
    (hd : decode M.2.2.1 pc = .ok (.invokestatic i, 3)) (ct : Ct d N as w r1 w1) (k : Rn (d + 1) M (pc + 3) L (r1.toList ++ S) w1 r w') : Rn (d + 1) M pc L (as.reverse ++ S) w r w' := by
  intro p l e s m args below meth c φ av ro D cy R cells slots Q H locs la X hR hE HD hS hl
  obtain ⟨hx, hb, hml, hown, hrt, hlk, hts, hK, hI, hX⟩ := id X
  rw [map_rev]
  have hG : GoodIn GW (UW N) := GW_GoodIn (fun w hw => by
    rcases List.mem_cons.mp hw with h | h
    · subst h; exact hN.1
    · exact h)
  refine va_callD (B := fun oc t => oc = .returned (r1.map (mv φ)) ∧ Hd φ D cy ro w1 t.heap) (va_runS (n := n) (Ts := GW) (As := as.map (mv φ)) (rest := S.map (mv φ)) ⟨hx, hb, hml, hown, hts⟩ (ct l φ av ro D cy)
    ⟨callB_of n hts hG rfl rfl rfl (hts _ hN.2.1) (hts _ hv.1) ⟨hN.2.2.2.2.1, hN.2.2.2.2.2.1, hd2⟩ (rm_fits hN hR), hts _ hv.2⟩
    ⟨Pre_blind, fun U hU hW => ⟨rfl, by rw [hU]; exact HD, hK.moved hW.alike, hI, hX.call hS hU hW⟩⟩ rfl (by rw [List.length_map]; exact hn) hl.1 rfl (by show 2 * 0 + _ ≤ 8; rw [mv_sum]; omega) hd ⟨hR.2.2.1, hR.2.2.2⟩) hS (fun q _ h => h) (fun q h => h) (fun v t H1 locs1 ht ha hB hS1 => ?_)
  obtain ⟨hv2, hH⟩ := hB
  cases hv2
  rw [show (Option.map (mv φ) r1).toList ++ S.map (mv φ) = (r1.toList ++ S).map (mv φ) by cases r1 <;> simp]
  exact k p l e s m args below meth c φ av ro D cy R cells slots Q H1 locs1 la X hR hE (by rw [← ht]; exact hH) hS1 hl
/-- a nest mate's private static method -/
theorem Rn.calln (hv : IVN M.1 i N) (hN : MOK N) {n : Nat} (hd2 : (parseMethodDescriptor N.2.1.desc).map (fun q => q.parameters.length) = some n) (hn : as.length = n) (hsum : (S.map fun v => v.category).sum ≤ 8)
    (hd : decode M.2.2.1 pc = .ok (.invokestatic i, 3)) (ct : Ct d N as w r1 w1) (k : Rn (d + 1) M (pc + 3) L (r1.toList ++ S) w1 r w') : Rn (d + 1) M pc L (as.reverse ++ S) w r w' := by
  intro p l e s m args below meth c φ av ro D cy R cells slots Q H locs la X hR hE HD hS hl
  obtain ⟨hx, hb, hml, hown, hrt, hlk, hts, hK, hI, hX⟩ := id X
  rw [map_rev]
  have hG : GoodIn GW (UW N) := GW_GoodIn (fun w hw => by
    rcases List.mem_cons.mp hw with h | h
    · subst h; exact hN.1
    · exact h)
  refine va_callD (B := fun oc t => oc = .returned (r1.map (mv φ)) ∧ Hd φ D cy ro w1 t.heap) (va_runSN (n := n) (Ts := GW) (As := as.map (mv φ)) (rest := S.map (mv φ)) ⟨hx, hb, hml, hown, hts⟩ (ct l φ av ro D cy)
    ⟨va_cnB n hts hG rfl rfl rfl (hX.1 _ hv.1) (hts _ hN.2.1) ⟨hN.2.2.2.2.1, hN.2.2.2.2.2.1, hd2⟩ (rm_fits hN hR), hts _ hv.2, trivial⟩
    ⟨Pre_blind, fun U hU hW => ⟨rfl, by rw [hU]; exact HD, hK.moved hW.alike, hI, hX.call hS hU hW⟩⟩ rfl (by rw [List.length_map]; exact hn) hl.1 rfl (by show 2 * 0 + _ ≤ 8; rw [mv_sum]; omega) hd ⟨hR.2.2.1, hR.2.2.2⟩) hS (fun q _ h => h) (fun q h => h) (fun v t H1 locs1 ht ha hB hS1 => ?_)
  obtain ⟨hv2, hH⟩ := hB
  cases hv2
  rw [show (Option.map (mv φ) r1).toList ++ S.map (mv φ) = (r1.toList ++ S).map (mv φ) by cases r1 <;> simp]
  exact k p l e s m args below meth c φ av ro D cy R cells slots Q H1 locs1 la X hR hE (by rw [← ht]; exact hH) hS1 hl
end RCALL
