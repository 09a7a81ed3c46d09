/-! constructors that make rows -/
theorem nr_int {D : va_G} {cy : Nat → ClassId} {cA : ClassId} {s : State} (hK : va_K D cls9 (tys cy ++ [(cA, .int)]) s) : cA = cy 0 ∧ va_K D cls9 (tys cy) s := by
  have h0 : s.vm.findClass ("[" ++ FieldType.int.toString) = some (cy 0) := (hK.2 0 (cy 0, .int) rfl).2
  have h4 : s.vm.findClass ("[" ++ FieldType.int.toString) = some cA := (hK.2 4 (cA, .int) rfl).2
  exact ⟨Option.some.inj (h4.symm.trans h0), hK.sub [0, 1, 2, 3] rfl⟩
theorem nr_long {D : va_G} {cy : Nat → ClassId} {cA : ClassId} {s : State} (hK : va_K D cls9 (tys cy ++ [(cA, .long)]) s) : cA = cy 1 ∧ va_K D cls9 (tys cy) s := by
  have h0 : s.vm.findClass ("[" ++ FieldType.long.toString) = some (cy 1) := (hK.2 1 (cy 1, .long) rfl).2
  have h4 : s.vm.findClass ("[" ++ FieldType.long.toString) = some cA := (hK.2 4 (cA, .long) rfl).2
  exact ⟨Option.some.inj (h4.symm.trans h0), hK.sub [0, 1, 2, 3] rfl⟩
abbrev e0_Sh : va_E := .inr (6, [.int 0, .int 0, .null])
set_option maxHeartbeats 4000000 in
set_option maxRecDepth 100000 in
theorem i_Sh (l : Launch) (D : va_G) (cy : Nat → ClassId) (h0 : Nat) (sz : Nat) : Met l mSh_init.2.1 (UW mSh_init) { frames := 1, cells := 1, slots := 160, locals := 60 } (va_Pc [.ref h0] (fun U => U.heap.size = sz ∧ va_P D cls9 [(h0, e0_Sh)] U.heap ∧ va_K D cls9 (tys cy) U ∧ va_D (fun _ => True) [(h0, e0_Sh)])) (va_Qv (fun _ : Unit => True) (fun _ t => ∃ q1 : Nat, va_P D cls9 [(h0, .inr (6, [.int (-1), .int 0, .ref q1])), (q1, .inl (cy 1, (160, .inr (.inl (fun _ => 0)))))] t.heap ∧ va_K D cls9 (tys cy) t ∧ va_D (va_A [(h0, e0_Sh)] sz) [(h0, .inr (6, [.int (-1), .int 0, .ref q1])), (q1, .inl (cy 1, (160, .inr (.inl (fun _ => 0)))))]) (va_A [(h0, e0_Sh)] sz)) 1 160 (va_A [(h0, e0_Sh)] sz) := by
  refine Met.ofW (cc := prog_8_method_1_code) (maxL := 1) (ret := none) (by decide) rfl ?_
  intro p e s m args below meth c s₁ B hml hv
  obtain ⟨rfl, hsz, hP, hK, hD0⟩ := hv
  have hx := B.exec
  have hb := B.bytes
  have hr := B.returns
  have hts0 := atoms_spec (ws := UW mSh_init) B.pre
  have hts : ∀ w ∈ GW, w.before _ s = true := fun w h => hts0 w (List.mem_cons_of_mem _ h)
  have hown : s.vm.findClass RX6 = some m.cls := findClass_of_methodNamed B.named
  have hlocks := B.notSynchronized
  have hin : meth.name = "<init>" := (name_of_methodNamed B.named B.method).1
  subst hsz
  have hD := hD0.self (sz := s.heap.size)
  generalize hAe : va_A [(h0, e0_Sh)] s.heap.size = A at hD ⊢
  have hA : ∀ q : Nat, s.heap.size ≤ q → A q := fun q h => by rw [← hAe]; exact Or.inr h
  have hS : va_S A s.heap s.heap [] := va_S.rf
  have hl := lv_entry ([.ref h0]) (n := 1) (Nat.le_of_ble_eq_true rfl)
  rw [lg_entry_eq]
  generalize (lg_sl ([.ref h0]) ++ List.replicate (1 - (lg_sl ([.ref h0])).length) Slot.unset).toArray = ls at hl ⊢
  have hl : lv_has ls 1 [(0, .ref h0)] := hl
  refine lv_aload_n hx hb (show decode prog_8_method_1_code 0 = .ok (.aload_n 0, 1) by decide +kernel) rfl (lv_at hl 0 rfl) ?_
  refine W.objInit hx hb hown (hts (.methodLink RX6 3 Lib.objectInit) (wi 1 109 rfl rfl)) (hts _ oi_i) (hts _ oi_c) rfl (by rw [hml]; exact hl.1) rfl (show decode prog_8_method_1_code 1 = .ok (.invokespecial 3, 3) by decide +kernel) (Nat.le_of_ble_eq_true rfl) (Nat.le_of_ble_eq_true rfl) ?_
  refine W.eq (g2 := F0 m 4 ls []) rfl ?_
  refine lv_aload_n hx hb (show decode prog_8_method_1_code 4 = .ok (.aload_n 0, 1) by decide +kernel) rfl (lv_at hl 0 rfl) ?_
  refine lv_iconst (v := (-1)) hx hb (show decode prog_8_method_1_code 5 = .ok (.iconst (-1), 1) by decide +kernel) (by decide) ?_
  refine va_put (D := D) (ci := 6) (v := .int (-1)) (ty := .int) (C := RX6) (T := TX6) (N := 3) hx hb hts us_6 tyX6 tyX6_ok nmX6 hown hK hP hD hS 0 rfl rfl 0 (by decide) (hts (.fieldLink RX6 9 RX6 "held" "I") (wi 1 110 rfl rfl)) (fun _ h9 => h9) rfl (by decide +kernel) rfl rfl (Nat.le_of_ble_eq_true rfl) (show decode prog_8_method_1_code 6 = .ok (.putfield 9, 3) by decide +kernel) (fun H locs hP hD hS => ?_)
  refine lv_aload_n hx hb (show decode prog_8_method_1_code 9 = .ok (.aload_n 0, 1) by decide +kernel) rfl (lv_at hl 0 rfl) ?_
  refine lv_sipush (v := 160) hx hb (show decode prog_8_method_1_code 10 = .ok (.sipush 160, 3) by decide +kernel) (by decide) ?_
  refine va_newa (ty := .long) (N' := 160) (a0 := (160, .inr (.inl (fun _ => 0)))) hx hb (hts _ (wi 1 125 rfl rfl)) rfl hK hP hD hS hA (fun _ => rfl) (by decide) rfl (by decide) (Nat.le_of_ble_eq_true rfl) (Nat.le_of_ble_eq_true rfl) (show decode prog_8_method_1_code 13 = .ok (.newarray .long, 2) by decide +kernel) (fun q1 cA H hK hP hD hS => ?_)
  obtain ⟨e9, hK9⟩ := nr_long hK
  subst e9
  replace hK := hK9
  refine va_putF (D := D) (ci := 6) (v := .ref q1) (ty := .array .long) (C := RX6) (T := TX6) (N := 3) hx hb hts us_6 tyX6 tyX6_ok nmX6 hown hK hP hD hS 0 rfl rfl 2 (by decide) (hts (.fieldLink RX6 15 RX6 "elements" "[J") (wi 1 116 rfl rfl)) (fun _ h9 => h9) rfl hin rfl (by decide +kernel) rfl rfl (Nat.le_of_ble_eq_true rfl) (show decode prog_8_method_1_code 15 = .ok (.putfield 15, 3) by decide +kernel) (fun H locs hP hD hS => ?_)
  have hP9 := hP.sub (ws' := [(h0, .inr (6, [.int (-1), .int 0, .ref q1])), (q1, .inl (cy 1, (160, .inr (.inl (fun _ => 0)))))]) [0, 1] rfl
  have hD9 := hD.sub (ws' := [(h0, .inr (6, [.int (-1), .int 0, .ref q1])), (q1, .inl (cy 1, (160, .inr (.inl (fun _ => 0)))))]) [0, 1] (by decide) rfl
  refine W.widen (k := 1) (n := 160) (Nat.le_of_ble_eq_true rfl) (Nat.le_of_ble_eq_true rfl) ?_
  exact W.vret hx hb hr (fun t ht hW => ⟨⟨(), rfl, trivial, q1, by rw [ht]; exact hP9, va_K.moved hW.alike hK, hD9⟩, hS.F ht⟩) hS.2.2 (show decode prog_8_method_1_code 18 = .ok (.return_, 1) by decide +kernel)
abbrev e0_Mv : va_E := .inr (4, [.null, .int 0, .int 0, .int 0, .int 0])
set_option maxHeartbeats 4000000 in
set_option maxRecDepth 100000 in
theorem i_Mv (l : Launch) (D : va_G) (cy : Nat → ClassId) (h0 : Nat) (sz : Nat) : Met l mMv_init.2.1 (UW mMv_init) { frames := 1, cells := 1, slots := 20, locals := 60 } (va_Pc [.ref h0] (fun U => U.heap.size = sz ∧ va_P D cls9 [(h0, e0_Mv)] U.heap ∧ va_K D cls9 (tys cy) U ∧ va_D (fun _ => True) [(h0, e0_Mv)])) (va_Qv (fun _ : Unit => True) (fun _ t => ∃ q1 : Nat, va_P D cls9 [(h0, .inr (4, [.ref q1, .int 0, .int 0, .int 0, .int 0])), (q1, .inl (cy 0, (20, .inl (fun _ => 0))))] t.heap ∧ va_K D cls9 (tys cy) t ∧ va_D (va_A [(h0, e0_Mv)] sz) [(h0, .inr (4, [.ref q1, .int 0, .int 0, .int 0, .int 0])), (q1, .inl (cy 0, (20, .inl (fun _ => 0))))]) (va_A [(h0, e0_Mv)] sz)) 1 20 (va_A [(h0, e0_Mv)] sz) := by
  refine Met.ofW (cc := prog_6_method_1_code) (maxL := 1) (ret := none) (by decide) rfl ?_
  intro p e s m args below meth c s₁ B hml hv
  obtain ⟨rfl, hsz, hP, hK, hD0⟩ := hv
  have hx := B.exec
  have hb := B.bytes
  have hr := B.returns
  have hts0 := atoms_spec (ws := UW mMv_init) B.pre
  have hts : ∀ w ∈ GW, w.before _ s = true := fun w h => hts0 w (List.mem_cons_of_mem _ h)
  have hown : s.vm.findClass RX4 = some m.cls := findClass_of_methodNamed B.named
  have hlocks := B.notSynchronized
  have hin : meth.name = "<init>" := (name_of_methodNamed B.named B.method).1
  subst hsz
  have hD := hD0.self (sz := s.heap.size)
  generalize hAe : va_A [(h0, e0_Mv)] s.heap.size = A at hD ⊢
  have hA : ∀ q : Nat, s.heap.size ≤ q → A q := fun q h => by rw [← hAe]; exact Or.inr h
  have hS : va_S A s.heap s.heap [] := va_S.rf
  have hl := lv_entry ([.ref h0]) (n := 1) (Nat.le_of_ble_eq_true rfl)
  rw [lg_entry_eq]
  generalize (lg_sl ([.ref h0]) ++ List.replicate (1 - (lg_sl ([.ref h0])).length) Slot.unset).toArray = ls at hl ⊢
  have hl : lv_has ls 1 [(0, .ref h0)] := hl
  refine lv_aload_n hx hb (show decode prog_6_method_1_code 0 = .ok (.aload_n 0, 1) by decide +kernel) rfl (lv_at hl 0 rfl) ?_
  refine W.objInit hx hb hown (hts (.methodLink RX4 3 Lib.objectInit) (wi 1 186 rfl rfl)) (hts _ oi_i) (hts _ oi_c) rfl (by rw [hml]; exact hl.1) rfl (show decode prog_6_method_1_code 1 = .ok (.invokespecial 3, 3) by decide +kernel) (Nat.le_of_ble_eq_true rfl) (Nat.le_of_ble_eq_true rfl) ?_
  refine W.eq (g2 := F0 m 4 ls []) rfl ?_
  refine lv_aload_n hx hb (show decode prog_6_method_1_code 4 = .ok (.aload_n 0, 1) by decide +kernel) rfl (lv_at hl 0 rfl) ?_
  refine lv_bipush (v := 20) hx hb (show decode prog_6_method_1_code 5 = .ok (.bipush 20, 2) by decide +kernel) (by decide) ?_
  refine va_newa (ty := .int) (N' := 20) (a0 := (20, .inl (fun _ => 0))) hx hb (hts _ (wi 1 73 rfl rfl)) rfl hK hP hD hS hA (fun _ => rfl) (by decide) rfl (by decide) (Nat.le_of_ble_eq_true rfl) (Nat.le_of_ble_eq_true rfl) (show decode prog_6_method_1_code 7 = .ok (.newarray .int, 2) by decide +kernel) (fun q1 cA H hK hP hD hS => ?_)
  obtain ⟨e9, hK9⟩ := nr_int hK
  subst e9
  replace hK := hK9
  refine va_putF (D := D) (ci := 4) (v := .ref q1) (ty := .array .int) (C := RX4) (T := TX4) (N := 5) hx hb hts us_4 tyX4 tyX4_ok nmX4 hown hK hP hD hS 0 rfl rfl 0 (by decide) (hts (.fieldLink RX4 11 RX4 "trace" "[I") (wi 1 187 rfl rfl)) (fun _ h9 => h9) rfl hin rfl (by decide +kernel) rfl rfl (Nat.le_of_ble_eq_true rfl) (show decode prog_6_method_1_code 9 = .ok (.putfield 11, 3) by decide +kernel) (fun H locs hP hD hS => ?_)
  have hP9 := hP.sub (ws' := [(h0, .inr (4, [.ref q1, .int 0, .int 0, .int 0, .int 0])), (q1, .inl (cy 0, (20, .inl (fun _ => 0))))]) [0, 1] rfl
  have hD9 := hD.sub (ws' := [(h0, .inr (4, [.ref q1, .int 0, .int 0, .int 0, .int 0])), (q1, .inl (cy 0, (20, .inl (fun _ => 0))))]) [0, 1] (by decide) rfl
  refine W.widen (k := 1) (n := 20) (Nat.le_of_ble_eq_true rfl) (Nat.le_of_ble_eq_true rfl) ?_
  exact W.vret hx hb hr (fun t ht hW => ⟨⟨(), rfl, trivial, q1, by rw [ht]; exact hP9, va_K.moved hW.alike hK, hD9⟩, hS.F ht⟩) hS.2.2 (show decode prog_6_method_1_code 12 = .ok (.return_, 1) by decide +kernel)
abbrev e0_Co : va_E := .inr (0, [.null, .null, .null, .int 0])
set_option maxHeartbeats 4000000 in
set_option maxRecDepth 100000 in
theorem i_Co (l : Launch) (D : va_G) (cy : Nat → ClassId) (h0 : Nat) (sz : Nat) : Met l mCo_init.2.1 (UW mCo_init) { frames := 1, cells := 3, slots := 24, locals := 60 } (va_Pc [.ref h0] (fun U => U.heap.size = sz ∧ va_P D cls9 [(h0, e0_Co)] U.heap ∧ va_K D cls9 (tys cy) U ∧ va_D (fun _ => True) [(h0, e0_Co)])) (va_Qv (fun _ : Unit => True) (fun _ t => ∃ q1 q2 q3 : Nat, va_P D cls9 [(h0, .inr (0, [.ref q1, .ref q2, .ref q3, .int 0])), (q1, .inl (cy 0, (8, .inl (fun _ => 0)))), (q2, .inl (cy 0, (8, .inl (fun _ => 0)))), (q3, .inl (cy 0, (8, .inl (fun _ => 0))))] t.heap ∧ va_K D cls9 (tys cy) t ∧ va_D (va_A [(h0, e0_Co)] sz) [(h0, .inr (0, [.ref q1, .ref q2, .ref q3, .int 0])), (q1, .inl (cy 0, (8, .inl (fun _ => 0)))), (q2, .inl (cy 0, (8, .inl (fun _ => 0)))), (q3, .inl (cy 0, (8, .inl (fun _ => 0))))]) (va_A [(h0, e0_Co)] sz)) 3 24 (va_A [(h0, e0_Co)] sz) := by
  refine Met.ofW (cc := prog_2_method_1_code) (maxL := 1) (ret := none) (by decide) rfl ?_
  intro p e s m args below meth c s₁ B hml hv
  obtain ⟨rfl, hsz, hP, hK, hD0⟩ := hv
  have hx := B.exec
  have hb := B.bytes
  have hr := B.returns
  have hts0 := atoms_spec (ws := UW mCo_init) B.pre
  have hts : ∀ w ∈ GW, w.before _ s = true := fun w h => hts0 w (List.mem_cons_of_mem _ h)
  have hown : s.vm.findClass RX0 = some m.cls := findClass_of_methodNamed B.named
  have hlocks := B.notSynchronized
  have hin : meth.name = "<init>" := (name_of_methodNamed B.named B.method).1
  subst hsz
  have hD := hD0.self (sz := s.heap.size)
  generalize hAe : va_A [(h0, e0_Co)] s.heap.size = A at hD ⊢
  have hA : ∀ q : Nat, s.heap.size ≤ q → A q := fun q h => by rw [← hAe]; exact Or.inr h
  have hS : va_S A s.heap s.heap [] := va_S.rf
  have hl := lv_entry ([.ref h0]) (n := 1) (Nat.le_of_ble_eq_true rfl)
  rw [lg_entry_eq]
  generalize (lg_sl ([.ref h0]) ++ List.replicate (1 - (lg_sl ([.ref h0])).length) Slot.unset).toArray = ls at hl ⊢
  have hl : lv_has ls 1 [(0, .ref h0)] := hl
  refine lv_aload_n hx hb (show decode prog_2_method_1_code 0 = .ok (.aload_n 0, 1) by decide +kernel) rfl (lv_at hl 0 rfl) ?_
  refine W.objInit hx hb hown (hts (.methodLink RX0 3 Lib.objectInit) (wi 1 153 rfl rfl)) (hts _ oi_i) (hts _ oi_c) rfl (by rw [hml]; exact hl.1) rfl (show decode prog_2_method_1_code 1 = .ok (.invokespecial 3, 3) by decide +kernel) (Nat.le_of_ble_eq_true rfl) (Nat.le_of_ble_eq_true rfl) ?_
  refine W.eq (g2 := F0 m 4 ls []) rfl ?_
  refine lv_aload_n hx hb (show decode prog_2_method_1_code 4 = .ok (.aload_n 0, 1) by decide +kernel) rfl (lv_at hl 0 rfl) ?_
  refine lv_bipush (v := 8) hx hb (show decode prog_2_method_1_code 5 = .ok (.bipush 8, 2) by decide +kernel) (by decide) ?_
  refine va_newa (ty := .int) (N' := 8) (a0 := (8, .inl (fun _ => 0))) hx hb (hts _ (wi 1 73 rfl rfl)) rfl hK hP hD hS hA (fun _ => rfl) (by decide) rfl (by decide) (Nat.le_of_ble_eq_true rfl) (Nat.le_of_ble_eq_true rfl) (show decode prog_2_method_1_code 7 = .ok (.newarray .int, 2) by decide +kernel) (fun q1 cA H hK hP hD hS => ?_)
  obtain ⟨e9, hK9⟩ := nr_int hK
  subst e9
  replace hK := hK9
  refine va_putF (D := D) (ci := 0) (v := .ref q1) (ty := .array .int) (C := RX0) (T := TX0) (N := 4) hx hb hts us_0 tyX0 tyX0_ok nmX0 hown hK hP hD hS 0 rfl rfl 0 (by decide) (hts (.fieldLink RX0 9 RX0 "known" "[I") (wi 1 154 rfl rfl)) (fun _ h9 => h9) rfl hin rfl (by decide +kernel) rfl rfl (Nat.le_of_ble_eq_true rfl) (show decode prog_2_method_1_code 9 = .ok (.putfield 9, 3) by decide +kernel) (fun H locs hP hD hS => ?_)
  refine lv_aload_n hx hb (show decode prog_2_method_1_code 12 = .ok (.aload_n 0, 1) by decide +kernel) rfl (lv_at hl 0 rfl) ?_
  refine lv_bipush (v := 8) hx hb (show decode prog_2_method_1_code 13 = .ok (.bipush 8, 2) by decide +kernel) (by decide) ?_
  refine va_newa (ty := .int) (N' := 8) (a0 := (8, .inl (fun _ => 0))) hx hb (hts _ (wi 1 73 rfl rfl)) rfl hK hP hD hS hA (fun _ => rfl) (by decide) rfl (by decide) (Nat.le_of_ble_eq_true rfl) (Nat.le_of_ble_eq_true rfl) (show decode prog_2_method_1_code 15 = .ok (.newarray .int, 2) by decide +kernel) (fun q2 cA H hK hP hD hS => ?_)
  obtain ⟨e9, hK9⟩ := nr_int hK
  subst e9
  replace hK := hK9
  refine va_putF (D := D) (ci := 0) (v := .ref q2) (ty := .array .int) (C := RX0) (T := TX0) (N := 4) hx hb hts us_0 tyX0 tyX0_ok nmX0 hown hK hP hD hS 0 rfl rfl 1 (by decide) (hts (.fieldLink RX0 15 RX0 "ahead" "[I") (wi 1 156 rfl rfl)) (fun _ h9 => h9) rfl hin rfl (by decide +kernel) rfl rfl (Nat.le_of_ble_eq_true rfl) (show decode prog_2_method_1_code 17 = .ok (.putfield 15, 3) by decide +kernel) (fun H locs hP hD hS => ?_)
  refine lv_aload_n hx hb (show decode prog_2_method_1_code 20 = .ok (.aload_n 0, 1) by decide +kernel) rfl (lv_at hl 0 rfl) ?_
  refine lv_bipush (v := 8) hx hb (show decode prog_2_method_1_code 21 = .ok (.bipush 8, 2) by decide +kernel) (by decide) ?_
  refine va_newa (ty := .int) (N' := 8) (a0 := (8, .inl (fun _ => 0))) hx hb (hts _ (wi 1 73 rfl rfl)) rfl hK hP hD hS hA (fun _ => rfl) (by decide) rfl (by decide) (Nat.le_of_ble_eq_true rfl) (Nat.le_of_ble_eq_true rfl) (show decode prog_2_method_1_code 23 = .ok (.newarray .int, 2) by decide +kernel) (fun q3 cA H hK hP hD hS => ?_)
  obtain ⟨e9, hK9⟩ := nr_int hK
  subst e9
  replace hK := hK9
  refine va_putF (D := D) (ci := 0) (v := .ref q3) (ty := .array .int) (C := RX0) (T := TX0) (N := 4) hx hb hts us_0 tyX0 tyX0_ok nmX0 hown hK hP hD hS 0 rfl rfl 2 (by decide) (hts (.fieldLink RX0 18 RX0 "meets" "[I") (wi 1 157 rfl rfl)) (fun _ h9 => h9) rfl hin rfl (by decide +kernel) rfl rfl (Nat.le_of_ble_eq_true rfl) (show decode prog_2_method_1_code 25 = .ok (.putfield 18, 3) by decide +kernel) (fun H locs hP hD hS => ?_)
  have hP9 := hP.sub (ws' := [(h0, .inr (0, [.ref q1, .ref q2, .ref q3, .int 0])), (q1, .inl (cy 0, (8, .inl (fun _ => 0)))), (q2, .inl (cy 0, (8, .inl (fun _ => 0)))), (q3, .inl (cy 0, (8, .inl (fun _ => 0))))]) [0, 1, 2, 3] rfl
  have hD9 := hD.sub (ws' := [(h0, .inr (0, [.ref q1, .ref q2, .ref q3, .int 0])), (q1, .inl (cy 0, (8, .inl (fun _ => 0)))), (q2, .inl (cy 0, (8, .inl (fun _ => 0)))), (q3, .inl (cy 0, (8, .inl (fun _ => 0))))]) [0, 1, 2, 3] (by decide) rfl
  refine W.widen (k := 3) (n := 24) (Nat.le_of_ble_eq_true rfl) (Nat.le_of_ble_eq_true rfl) ?_
  exact W.vret hx hb hr (fun t ht hW => ⟨⟨(), rfl, trivial, q1, q2, q3, by rw [ht]; exact hP9, va_K.moved hW.alike hK, hD9⟩, hS.F ht⟩) hS.2.2 (show decode prog_2_method_1_code 28 = .ok (.return_, 1) by decide +kernel)
abbrev e0_Cl : va_E := .inr (1, [.null, .null])
set_option maxHeartbeats 4000000 in
set_option maxRecDepth 100000 in
theorem i_Cl (l : Launch) (D : va_G) (cy : Nat → ClassId) (h0 : Nat) (sz : Nat) : Met l mCl_init.2.1 (UW mCl_init) { frames := 1, cells := 2, slots := 38, locals := 60 } (va_Pc [.ref h0] (fun U => U.heap.size = sz ∧ va_P D cls9 [(h0, e0_Cl)] U.heap ∧ va_K D cls9 (tys cy) U ∧ va_D (fun _ => True) [(h0, e0_Cl)])) (va_Qv (fun _ : Unit => True) (fun _ t => ∃ q1 q2 : Nat, va_P D cls9 [(h0, .inr (1, [.ref q1, .ref q2])), (q1, .inl (cy 0, (30, .inl (fun _ => 0)))), (q2, .inl (cy 0, (8, .inl (fun _ => 0))))] t.heap ∧ va_K D cls9 (tys cy) t ∧ va_D (va_A [(h0, e0_Cl)] sz) [(h0, .inr (1, [.ref q1, .ref q2])), (q1, .inl (cy 0, (30, .inl (fun _ => 0)))), (q2, .inl (cy 0, (8, .inl (fun _ => 0))))]) (va_A [(h0, e0_Cl)] sz)) 2 38 (va_A [(h0, e0_Cl)] sz) := by
  refine Met.ofW (cc := prog_3_method_1_code) (maxL := 1) (ret := none) (by decide) rfl ?_
  intro p e s m args below meth c s₁ B hml hv
  obtain ⟨rfl, hsz, hP, hK, hD0⟩ := hv
  have hx := B.exec
  have hb := B.bytes
  have hr := B.returns
  have hts0 := atoms_spec (ws := UW mCl_init) B.pre
  have hts : ∀ w ∈ GW, w.before _ s = true := fun w h => hts0 w (List.mem_cons_of_mem _ h)
  have hown : s.vm.findClass RX1 = some m.cls := findClass_of_methodNamed B.named
  have hlocks := B.notSynchronized
  have hin : meth.name = "<init>" := (name_of_methodNamed B.named B.method).1
  subst hsz
  have hD := hD0.self (sz := s.heap.size)
  generalize hAe : va_A [(h0, e0_Cl)] s.heap.size = A at hD ⊢
  have hA : ∀ q : Nat, s.heap.size ≤ q → A q := fun q h => by rw [← hAe]; exact Or.inr h
  have hS : va_S A s.heap s.heap [] := va_S.rf
  have hl := lv_entry ([.ref h0]) (n := 1) (Nat.le_of_ble_eq_true rfl)
  rw [lg_entry_eq]
  generalize (lg_sl ([.ref h0]) ++ List.replicate (1 - (lg_sl ([.ref h0])).length) Slot.unset).toArray = ls at hl ⊢
  have hl : lv_has ls 1 [(0, .ref h0)] := hl
  refine lv_aload_n hx hb (show decode prog_3_method_1_code 0 = .ok (.aload_n 0, 1) by decide +kernel) rfl (lv_at hl 0 rfl) ?_
  refine W.objInit hx hb hown (hts (.methodLink RX1 3 Lib.objectInit) (wi 1 173 rfl rfl)) (hts _ oi_i) (hts _ oi_c) rfl (by rw [hml]; exact hl.1) rfl (show decode prog_3_method_1_code 1 = .ok (.invokespecial 3, 3) by decide +kernel) (Nat.le_of_ble_eq_true rfl) (Nat.le_of_ble_eq_true rfl) ?_
  refine W.eq (g2 := F0 m 4 ls []) rfl ?_
  refine lv_aload_n hx hb (show decode prog_3_method_1_code 4 = .ok (.aload_n 0, 1) by decide +kernel) rfl (lv_at hl 0 rfl) ?_
  refine lv_bipush (v := 30) hx hb (show decode prog_3_method_1_code 5 = .ok (.bipush 30, 2) by decide +kernel) (by decide) ?_
  refine va_newa (ty := .int) (N' := 30) (a0 := (30, .inl (fun _ => 0))) hx hb (hts _ (wi 1 73 rfl rfl)) rfl hK hP hD hS hA (fun _ => rfl) (by decide) rfl (by decide) (Nat.le_of_ble_eq_true rfl) (Nat.le_of_ble_eq_true rfl) (show decode prog_3_method_1_code 7 = .ok (.newarray .int, 2) by decide +kernel) (fun q1 cA H hK hP hD hS => ?_)
  obtain ⟨e9, hK9⟩ := nr_int hK
  subst e9
  replace hK := hK9
  refine va_putF (D := D) (ci := 1) (v := .ref q1) (ty := .array .int) (C := RX1) (T := TX1) (N := 2) hx hb hts us_1 tyX1 tyX1_ok nmX1 hown hK hP hD hS 0 rfl rfl 0 (by decide) (hts (.fieldLink RX1 9 RX1 "told" "[I") (wi 1 174 rfl rfl)) (fun _ h9 => h9) rfl hin rfl (by decide +kernel) rfl rfl (Nat.le_of_ble_eq_true rfl) (show decode prog_3_method_1_code 9 = .ok (.putfield 9, 3) by decide +kernel) (fun H locs hP hD hS => ?_)
  refine lv_aload_n hx hb (show decode prog_3_method_1_code 12 = .ok (.aload_n 0, 1) by decide +kernel) rfl (lv_at hl 0 rfl) ?_
  refine lv_bipush (v := 8) hx hb (show decode prog_3_method_1_code 13 = .ok (.bipush 8, 2) by decide +kernel) (by decide) ?_
  refine va_newa (ty := .int) (N' := 8) (a0 := (8, .inl (fun _ => 0))) hx hb (hts _ (wi 1 73 rfl rfl)) rfl hK hP hD hS hA (fun _ => rfl) (by decide) rfl (by decide) (Nat.le_of_ble_eq_true rfl) (Nat.le_of_ble_eq_true rfl) (show decode prog_3_method_1_code 15 = .ok (.newarray .int, 2) by decide +kernel) (fun q2 cA H hK hP hD hS => ?_)
  obtain ⟨e9, hK9⟩ := nr_int hK
  subst e9
  replace hK := hK9
  refine va_putF (D := D) (ci := 1) (v := .ref q2) (ty := .array .int) (C := RX1) (T := TX1) (N := 2) hx hb hts us_1 tyX1 tyX1_ok nmX1 hown hK hP hD hS 0 rfl rfl 1 (by decide) (hts (.fieldLink RX1 15 RX1 "parts" "[I") (wi 1 175 rfl rfl)) (fun _ h9 => h9) rfl hin rfl (by decide +kernel) rfl rfl (Nat.le_of_ble_eq_true rfl) (show decode prog_3_method_1_code 17 = .ok (.putfield 15, 3) by decide +kernel) (fun H locs hP hD hS => ?_)
  have hP9 := hP.sub (ws' := [(h0, .inr (1, [.ref q1, .ref q2])), (q1, .inl (cy 0, (30, .inl (fun _ => 0)))), (q2, .inl (cy 0, (8, .inl (fun _ => 0))))]) [0, 1, 2] rfl
  have hD9 := hD.sub (ws' := [(h0, .inr (1, [.ref q1, .ref q2])), (q1, .inl (cy 0, (30, .inl (fun _ => 0)))), (q2, .inl (cy 0, (8, .inl (fun _ => 0))))]) [0, 1, 2] (by decide) rfl
  refine W.widen (k := 2) (n := 38) (Nat.le_of_ble_eq_true rfl) (Nat.le_of_ble_eq_true rfl) ?_
  exact W.vret hx hb hr (fun t ht hW => ⟨⟨(), rfl, trivial, q1, q2, by rw [ht]; exact hP9, va_K.moved hW.alike hK, hD9⟩, hS.F ht⟩) hS.2.2 (show decode prog_3_method_1_code 20 = .ok (.return_, 1) by decide +kernel)
