/-! a man's constructor -/
abbrev mn0 : va_E := .inr (3, [.int 0, .int 0, .int 0, .int 0, .int 0, .int 0])
abbrev mn1 : va_E := .inr (3, [.int 0, .int 0, .int 0, .int (-1), .int 0, .int 0])
theorem oi_i : Cond.instanceMethod Lib.objectInit ∈ GW := wi 1 24 rfl rfl
theorem oi_c : Cond.code Lib.objectInit ⟨#[0xb1]⟩ 1 none ∈ GW := wi 1 25 rfl rfl
set_option maxHeartbeats 4000000 in
set_option maxRecDepth 100000 in
theorem i_Mn (l : Launch) (D : va_G) (h0 : Nat) (sz : Nat) : Met l mMn_init.2.1 (UW mMn_init) { frames := 1, cells := 0, slots := 0, locals := 60 } (va_Pc [.ref h0] (fun U => U.heap.size = sz ∧ va_P D cls9 [(h0, mn0)] U.heap ∧ va_K D cls9 [] U ∧ va_D (fun _ => True) [(h0, mn0)])) (va_Qv (fun _ : Unit => True) (fun _ t => va_P D cls9 [(h0, mn1)] t.heap ∧ va_K D cls9 [] t ∧ va_D (va_A [(h0, mn0)] sz) [(h0, mn1)]) (va_A [(h0, mn0)] sz)) 0 0 (va_A [(h0, mn0)] sz) := by
  refine Met.ofW (cc := prog_5_method_1_code) (maxL := 1) (ret := none) (by decide) rfl ?_
  intro p e s m args below meth c s₁ B hml hv
  obtain ⟨rfl, hsz, hP, hK, hD0⟩ := hv
  have hx := B.exec
  have hb := B.bytes
  have hr := B.returns
  have hts0 := atoms_spec (ws := UW mMn_init) B.pre
  have hts : ∀ w ∈ GW, w.before _ s = true := fun w h => hts0 w (List.mem_cons_of_mem _ h)
  have hown : s.vm.findClass RX3 = some m.cls := findClass_of_methodNamed B.named
  have hlocks := B.notSynchronized
  have hin : meth.name = "<init>" := (name_of_methodNamed B.named B.method).1
  subst hsz
  have hD := hD0.self (sz := s.heap.size)
  generalize hAe : va_A [(h0, mn0)] s.heap.size = A at hD ⊢
  have hA : ∀ q : Nat, s.heap.size ≤ q → A q := fun q h => by rw [← hAe]; exact Or.inr h
  have hS : va_S A s.heap s.heap [] := va_S.rf
  have hl := lv_entry ([.ref h0]) (n := 1) (Nat.le_of_ble_eq_true rfl)
  rw [lg_entry_eq]
  generalize (lg_sl ([.ref h0]) ++ List.replicate (1 - (lg_sl ([.ref h0])).length) Slot.unset).toArray = ls at hl ⊢
  have hl : lv_has ls 1 [(0, .ref h0)] := hl
  refine lv_aload_n hx hb (show decode prog_5_method_1_code 0 = .ok (.aload_n 0, 1) by decide +kernel) rfl (lv_at hl 0 rfl) ?_
  refine W.objInit hx hb hown (hts (.methodLink RX3 3 Lib.objectInit) (wi 1 38 rfl rfl)) (hts _ oi_i) (hts _ oi_c) rfl (by rw [hml]; exact hl.1) rfl (show decode prog_5_method_1_code 1 = .ok (.invokespecial 3, 3) by decide +kernel) (Nat.le_of_ble_eq_true rfl) (Nat.le_of_ble_eq_true rfl) ?_
  refine W.eq (g2 := F0 m 4 ls []) rfl ?_
  refine lv_aload_n hx hb (show decode prog_5_method_1_code 4 = .ok (.aload_n 0, 1) by decide +kernel) rfl (lv_at hl 0 rfl) ?_
  refine lv_iconst (v := -1) hx hb (show decode prog_5_method_1_code 5 = .ok (.iconst (-1), 1) by decide +kernel) (by decide) ?_
  refine va_put (D := D) (ci := 3) (v := .int (-1)) (ty := .int) (C := RX3) (T := TX3) (N := 6) hx hb hts us_3 tyX3 tyX3_ok nmX3 hown hK hP hD hS 0 rfl rfl 3 (by decide) (hts (.fieldLink RX3 9 RX3 "belief" "I") (wi 1 48 rfl rfl)) (fun _ h9 => h9) rfl (by decide +kernel) rfl rfl (Nat.le_of_ble_eq_true rfl) (show decode prog_5_method_1_code 6 = .ok (.putfield 9, 3) by decide +kernel) (fun H locs hP hD hS => ?_)
  have hP9 := hP.sub (ws' := [(h0, mn1)]) [0] rfl
  have hD9 := hD.sub (ws' := [(h0, mn1)]) [0] (by decide) rfl
  have hK9 := hK.sub (tys' := []) [] rfl
  exact W.vret hx hb hr (fun t ht hW => ⟨⟨(), rfl, trivial, by rw [ht]; exact hP9, va_K.moved hW.alike hK9, hD9⟩, hS.F ht⟩) hS.2.2 (show decode prog_5_method_1_code 9 = .ok (.return_, 1) by decide +kernel)
