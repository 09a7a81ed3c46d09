/-! the reader's constructor -/
theorem nw_warm {s U : State} (hW : s.WarmedH U.vm) (h : ∀ w ∈ lw_tbl.filter nestWord, va_Nw w s) : ∀ w ∈ lw_tbl.filter nestWord, va_Nw w U := fun w hw => by
  have h1 := h w hw
  rcases nest_cases hw with ⟨_, _, _, _, rfl⟩ | ⟨_, _, _, _, _, _, rfl⟩
  · exact va_Nw.warmM hW h1
  · exact va_Nw.warmF hW h1
theorem nw_same {s U : State} (hv : s.vm = U.vm) (h : ∀ w ∈ lw_tbl.filter nestWord, va_Nw w s) : ∀ w ∈ lw_tbl.filter nestWord, va_Nw w U := fun w hw => by
  have h1 := h w hw
  rcases nest_cases hw with ⟨_, _, _, _, rfl⟩ | ⟨_, _, _, _, _, _, rfl⟩
  · exact va_Nw.same rfl hv h1
  · exact va_Nw.same rfl hv h1
theorem gi_Ct : GoodIn GW (UW mCt_init) := GW_GoodIn (fun w hw => by
  rcases List.mem_cons.mp hw with h | h
  · subst h; exact kCt_init.1
  · exact h)
abbrev e0_Rd : va_E := .inr (5, [.null, .int 0, .int 0, .int 0])
set_option maxHeartbeats 4000000 in
set_option maxRecDepth 100000 in
theorem i_Rd (l : Launch) (D : va_G) (cy : Nat → ClassId) (h0 : Nat) (sz : Nat) : Met l mRd_init.2.1 (UW mRd_init) { frames := 3, cells := 11, slots := 91, locals := 180 } (va_Pc [.ref h0] (fun U => U.heap.size = sz ∧ va_P D cls9 [(h0, e0_Rd)] U.heap ∧ va_K D cls9 (tys cy) U ∧ va_D (fun _ => True) [(h0, e0_Rd)] ∧ (∀ w ∈ lw_tbl.filter nestWord, va_Nw w U) ∧ va_AO RX3 U)) (va_Qv (fun _ : Unit => True) (fun _ t => ∃ q1 q2 q3 q4 q5 q6 q7 q8 q9 q10 q11 : Nat, va_P D cls9 [(h0, .inr (5, [.ref q1, .int 0, .int 0, .int (-1)])), (q1, .inr (2, [.ref q2, .int 0, .ref q3, .int 0, .int (1)])), (q2, .inl (cy 2, (8, .inr (.inr (.inr (.inr (va_up (va_up (va_up (va_up (va_up (va_up (va_up (va_up (fun _ => none) 0 (some q4)) 1 (some q5)) 2 (some q6)) 3 (some q7)) 4 (some q8)) 5 (some q9)) 6 (some q10)) 7 (some q11)))))))), (q3, .inl (cy 0, (30, .inl (fun _ => 0)))), (q4, mn1), (q5, mn1), (q6, mn1), (q7, mn1), (q8, mn1), (q9, mn1), (q10, mn1), (q11, mn1)] t.heap ∧ va_K D cls9 (tys cy) t ∧ va_D (va_A [(h0, e0_Rd)] sz) [(h0, .inr (5, [.ref q1, .int 0, .int 0, .int (-1)])), (q1, .inr (2, [.ref q2, .int 0, .ref q3, .int 0, .int (1)])), (q2, .inl (cy 2, (8, .inr (.inr (.inr (.inr (va_up (va_up (va_up (va_up (va_up (va_up (va_up (va_up (fun _ => none) 0 (some q4)) 1 (some q5)) 2 (some q6)) 3 (some q7)) 4 (some q8)) 5 (some q9)) 6 (some q10)) 7 (some q11)))))))), (q3, .inl (cy 0, (30, .inl (fun _ => 0)))), (q4, mn1), (q5, mn1), (q6, mn1), (q7, mn1), (q8, mn1), (q9, mn1), (q10, mn1), (q11, mn1)]) (va_A [(h0, e0_Rd)] sz)) 11 91 (va_A [(h0, e0_Rd)] sz) := by
  refine Met.ofW (cc := prog_7_method_1_code) (maxL := 1) (ret := none) (by decide) rfl ?_
  intro p e s m args below meth c s₁ B hml hv
  obtain ⟨rfl, hsz, hP, hK, hD0, hnest, hAO⟩ := hv
  have hx := B.exec
  have hb := B.bytes
  have hr := B.returns
  have hts0 := atoms_spec (ws := UW mRd_init) B.pre
  have hts : ∀ w ∈ GW, w.before _ s = true := fun w h => hts0 w (List.mem_cons_of_mem _ h)
  have hown : s.vm.findClass RX5 = some m.cls := findClass_of_methodNamed B.named
  have hlocks := B.notSynchronized
  have hin : meth.name = "<init>" := (name_of_methodNamed B.named B.method).1
  subst hsz
  have hD := hD0.self (sz := s.heap.size)
  generalize hAe : va_A [(h0, e0_Rd)] s.heap.size = A at hD ⊢
  have hA : ∀ q : Nat, s.heap.size ≤ q → A q := fun q h => by rw [← hAe]; exact Or.inr h
  have hS : va_S A s.heap s.heap [] := va_S.rf
  have hl := lv_entry ([.ref h0]) (n := 1) (Nat.le_of_ble_eq_true rfl)
  rw [lg_entry_eq]
  generalize (lg_sl ([.ref h0]) ++ List.replicate (1 - (lg_sl ([.ref h0])).length) Slot.unset).toArray = ls at hl ⊢
  have hl : lv_has ls 1 [(0, .ref h0)] := hl
  refine lv_aload_n hx hb (show decode prog_7_method_1_code 0 = .ok (.aload_n 0, 1) by decide +kernel) rfl (lv_at hl 0 rfl) ?_
  refine W.objInit hx hb hown (hts (.methodLink RX5 3 Lib.objectInit) (wi 1 131 rfl rfl)) (hts _ oi_i) (hts _ oi_c) rfl (by rw [hml]; exact hl.1) rfl (show decode prog_7_method_1_code 1 = .ok (.invokespecial 3, 3) by decide +kernel) (Nat.le_of_ble_eq_true rfl) (Nat.le_of_ble_eq_true rfl) ?_
  refine W.eq (g2 := F0 m 4 ls []) rfl ?_
  refine lv_aload_n hx hb (show decode prog_7_method_1_code 4 = .ok (.aload_n 0, 1) by decide +kernel) rfl (lv_at hl 0 rfl) ?_
  refine va_new (ci := 2) (fs := [.null, .int 0, .null, .int 0, .int 0]) (C := RX2) (T := TX2) (N := 5) hx hb hts us_2 tyX2 tyX2_ok hown (hts (.classLink RX5 9 RX2) (wi 1 132 rfl rfl)) (hts (.instantiable RX2 5) (wi 1 27 rfl rfl)) (hts (.initialized RX2) kCt_init.2.1) hK hP hD hS hA rfl (fun j hj => by rcases (show j = 0 ∨ j = 1 ∨ j = 2 ∨ j = 3 ∨ j = 4 by omega) with rfl | rfl | rfl | rfl | rfl <;> rfl) (Nat.le_of_ble_eq_true rfl) (Nat.le_of_ble_eq_true rfl) (show decode prog_7_method_1_code 5 = .ok (.new 9, 3) by decide +kernel) (fun q1 H hP hD hS => ?_)
  have hP : va_P D cls9 [(h0, .inr (5, [.null, .int 0, .int 0, .int 0])), (q1, e0_Ct)] H := hP
  have hD : va_D A [(h0, .inr (5, [.null, .int 0, .int 0, .int 0])), (q1, e0_Ct)] := hD
  refine lv_dup hx hb (show decode prog_7_method_1_code 8 = .ok (.dup, 1) by decide +kernel) rfl ?_
  have hPc := hP.sub (ws' := [(q1, e0_Ct)]) [1] rfl
  have hDc := hD.sub (ws' := [(q1, e0_Ct)]) [1] (by decide) rfl
  have hFc := va_free (wc := [(q1, e0_Ct)]) hD hS hA [1] rfl
  refine va_callv (va_runI (Ts := GW) (As := []) (rest := [.ref q1, .ref h0]) ⟨hx, hb, hml, hown, hts⟩ (i_Ct l D cy q1 H.size) (cwI 0 hts gi_Ct rfl rfl rfl (hts (.initialized RX2) kCt_init.2.1) (hts (.methodLink RX5 11 mCt_init.2.1) (wi 1 133 rfl rfl)) (hts (.instanceMethod mCt_init.2.1) (wi 1 29 rfl rfl)) rfl (by decide +kernel) ⟨Nat.le_of_ble_eq_true rfl, Nat.le_of_ble_eq_true rfl⟩) ⟨fun a U g mk q => by obtain ⟨q0, q1, qP, qK, qD, qN, qA⟩ := q; exact ⟨q0, q1, qP, va_K.moved (u := U) (U := U.calling g mk a) (Vm.Alike.refl U.vm) qK, qD, nw_same (s := U) (U := U.calling g mk a) rfl qN, va_AO.moved (u := U) (U := U.calling g mk a) (Vm.Alike.refl U.vm) qA⟩, fun U hU hW => ⟨rfl, by rw [hU], by rw [hU]; exact hPc, va_K.moved hW.alike hK, hDc.weaken (fun _ _ _ _ => trivial), nw_warm hW hnest, hAO.moved hW.alike⟩⟩ rfl rfl hl.1 rfl (lv_room (Nat.le_of_ble_eq_true rfl)) (show decode prog_7_method_1_code 9 = .ok (.invokespecial 11, 3) by decide +kernel) ⟨Nat.le_of_ble_eq_true rfl, Nat.le_of_ble_eq_true rfl⟩) hS (fun q _ h => hFc q h) hFc (fun u t H1 locs ht hvm hw hB hz1 hk1 hS => ?_)
  obtain ⟨q2, q3, q4, q5, q6, q7, q8, q9, q10, q11, hP1, hK1, hD1⟩ := hB
  rw [ht] at hP1
  obtain ⟨hP, hD⟩ := va_join (wr := [(h0, .inr (5, [.null, .int 0, .int 0, .int 0]))]) (w1 := [(q1, .inr (2, [.ref q2, .int 0, .ref q3, .int 0, .int (1)])), (q2, .inl (cy 2, (8, .inr (.inr (.inr (.inr (va_up (va_up (va_up (va_up (va_up (va_up (va_up (va_up (fun _ => none) 0 (some q4)) 1 (some q5)) 2 (some q6)) 3 (some q7)) 4 (some q8)) 5 (some q9)) 6 (some q10)) 7 (some q11)))))))), (q3, .inl (cy 0, (30, .inl (fun _ => 0)))), (q4, mn1), (q5, mn1), (q6, mn1), (q7, mn1), (q8, mn1), (q9, mn1), (q10, mn1), (q11, mn1)]) hP hD [1] [0] rfl rfl (by decide) (by decide) hk1 hFc hP1 hD1
  clear hk1 hFc hPc hDc hP1 hD1 hz1 ht
  generalize H1 = H at hP hS ⊢
  have hP : va_P D cls9 [(h0, .inr (5, [.null, .int 0, .int 0, .int 0])), (q1, .inr (2, [.ref q2, .int 0, .ref q3, .int 0, .int (1)])), (q2, .inl (cy 2, (8, .inr (.inr (.inr (.inr (va_up (va_up (va_up (va_up (va_up (va_up (va_up (va_up (fun _ => none) 0 (some q4)) 1 (some q5)) 2 (some q6)) 3 (some q7)) 4 (some q8)) 5 (some q9)) 6 (some q10)) 7 (some q11)))))))), (q3, .inl (cy 0, (30, .inl (fun _ => 0)))), (q4, mn1), (q5, mn1), (q6, mn1), (q7, mn1), (q8, mn1), (q9, mn1), (q10, mn1), (q11, mn1)] H := hP
  have hD : va_D A [(h0, .inr (5, [.null, .int 0, .int 0, .int 0])), (q1, .inr (2, [.ref q2, .int 0, .ref q3, .int 0, .int (1)])), (q2, .inl (cy 2, (8, .inr (.inr (.inr (.inr (va_up (va_up (va_up (va_up (va_up (va_up (va_up (va_up (fun _ => none) 0 (some q4)) 1 (some q5)) 2 (some q6)) 3 (some q7)) 4 (some q8)) 5 (some q9)) 6 (some q10)) 7 (some q11)))))))), (q3, .inl (cy 0, (30, .inl (fun _ => 0)))), (q4, mn1), (q5, mn1), (q6, mn1), (q7, mn1), (q8, mn1), (q9, mn1), (q10, mn1), (q11, mn1)] := hD
  refine va_putF (D := D) (ci := 5) (v := .ref q1) (ty := .object RX2) (C := RX5) (T := TX5) (N := 4) hx hb hts us_5 tyX5 tyX5_ok nmX5 hown hK hP hD hS 0 rfl rfl 0 (by decide) (hts (.fieldLink RX5 12 RX5 "trial" "LEveryonesThirdWord$Court;") (wi 1 134 rfl rfl)) (fun _ h9 => h9) rfl hin rfl (by decide +kernel) rfl rfl (Nat.le_of_ble_eq_true rfl) (show decode prog_7_method_1_code 12 = .ok (.putfield 12, 3) by decide +kernel) (fun H locs hP hD hS => ?_)
  have hP : va_P D cls9 [(h0, .inr (5, [.ref q1, .int 0, .int 0, .int 0])), (q1, .inr (2, [.ref q2, .int 0, .ref q3, .int 0, .int (1)])), (q2, .inl (cy 2, (8, .inr (.inr (.inr (.inr (va_up (va_up (va_up (va_up (va_up (va_up (va_up (va_up (fun _ => none) 0 (some q4)) 1 (some q5)) 2 (some q6)) 3 (some q7)) 4 (some q8)) 5 (some q9)) 6 (some q10)) 7 (some q11)))))))), (q3, .inl (cy 0, (30, .inl (fun _ => 0)))), (q4, mn1), (q5, mn1), (q6, mn1), (q7, mn1), (q8, mn1), (q9, mn1), (q10, mn1), (q11, mn1)] H := hP
  have hD : va_D A [(h0, .inr (5, [.ref q1, .int 0, .int 0, .int 0])), (q1, .inr (2, [.ref q2, .int 0, .ref q3, .int 0, .int (1)])), (q2, .inl (cy 2, (8, .inr (.inr (.inr (.inr (va_up (va_up (va_up (va_up (va_up (va_up (va_up (va_up (fun _ => none) 0 (some q4)) 1 (some q5)) 2 (some q6)) 3 (some q7)) 4 (some q8)) 5 (some q9)) 6 (some q10)) 7 (some q11)))))))), (q3, .inl (cy 0, (30, .inl (fun _ => 0)))), (q4, mn1), (q5, mn1), (q6, mn1), (q7, mn1), (q8, mn1), (q9, mn1), (q10, mn1), (q11, mn1)] := hD
  refine lv_aload_n hx hb (show decode prog_7_method_1_code 15 = .ok (.aload_n 0, 1) by decide +kernel) rfl (lv_at hl 0 rfl) ?_
  refine lv_iconst (v := (-1)) hx hb (show decode prog_7_method_1_code 16 = .ok (.iconst (-1), 1) by decide +kernel) (by decide) ?_
  refine va_put (D := D) (ci := 5) (v := .int (-1)) (ty := .int) (C := RX5) (T := TX5) (N := 4) hx hb hts us_5 tyX5 tyX5_ok nmX5 hown hK hP hD hS 0 rfl rfl 3 (by decide) (hts (.fieldLink RX5 18 RX5 "fault" "I") (wi 1 137 rfl rfl)) (fun _ h9 => h9) rfl (by decide +kernel) rfl rfl (Nat.le_of_ble_eq_true rfl) (show decode prog_7_method_1_code 17 = .ok (.putfield 18, 3) by decide +kernel) (fun H locs hP hD hS => ?_)
  have hP : va_P D cls9 [(h0, .inr (5, [.ref q1, .int 0, .int 0, .int (-1)])), (q1, .inr (2, [.ref q2, .int 0, .ref q3, .int 0, .int (1)])), (q2, .inl (cy 2, (8, .inr (.inr (.inr (.inr (va_up (va_up (va_up (va_up (va_up (va_up (va_up (va_up (fun _ => none) 0 (some q4)) 1 (some q5)) 2 (some q6)) 3 (some q7)) 4 (some q8)) 5 (some q9)) 6 (some q10)) 7 (some q11)))))))), (q3, .inl (cy 0, (30, .inl (fun _ => 0)))), (q4, mn1), (q5, mn1), (q6, mn1), (q7, mn1), (q8, mn1), (q9, mn1), (q10, mn1), (q11, mn1)] H := hP
  have hD : va_D A [(h0, .inr (5, [.ref q1, .int 0, .int 0, .int (-1)])), (q1, .inr (2, [.ref q2, .int 0, .ref q3, .int 0, .int (1)])), (q2, .inl (cy 2, (8, .inr (.inr (.inr (.inr (va_up (va_up (va_up (va_up (va_up (va_up (va_up (va_up (fun _ => none) 0 (some q4)) 1 (some q5)) 2 (some q6)) 3 (some q7)) 4 (some q8)) 5 (some q9)) 6 (some q10)) 7 (some q11)))))))), (q3, .inl (cy 0, (30, .inl (fun _ => 0)))), (q4, mn1), (q5, mn1), (q6, mn1), (q7, mn1), (q8, mn1), (q9, mn1), (q10, mn1), (q11, mn1)] := hD
  have hP9 := hP.sub (ws' := [(h0, .inr (5, [.ref q1, .int 0, .int 0, .int (-1)])), (q1, .inr (2, [.ref q2, .int 0, .ref q3, .int 0, .int (1)])), (q2, .inl (cy 2, (8, .inr (.inr (.inr (.inr (va_up (va_up (va_up (va_up (va_up (va_up (va_up (va_up (fun _ => none) 0 (some q4)) 1 (some q5)) 2 (some q6)) 3 (some q7)) 4 (some q8)) 5 (some q9)) 6 (some q10)) 7 (some q11)))))))), (q3, .inl (cy 0, (30, .inl (fun _ => 0)))), (q4, mn1), (q5, mn1), (q6, mn1), (q7, mn1), (q8, mn1), (q9, mn1), (q10, mn1), (q11, mn1)]) [0, 1, 2, 3, 4, 5, 6, 7, 8, 9, 10, 11] rfl
  have hD9 := hD.sub (ws' := [(h0, .inr (5, [.ref q1, .int 0, .int 0, .int (-1)])), (q1, .inr (2, [.ref q2, .int 0, .ref q3, .int 0, .int (1)])), (q2, .inl (cy 2, (8, .inr (.inr (.inr (.inr (va_up (va_up (va_up (va_up (va_up (va_up (va_up (va_up (fun _ => none) 0 (some q4)) 1 (some q5)) 2 (some q6)) 3 (some q7)) 4 (some q8)) 5 (some q9)) 6 (some q10)) 7 (some q11)))))))), (q3, .inl (cy 0, (30, .inl (fun _ => 0)))), (q4, mn1), (q5, mn1), (q6, mn1), (q7, mn1), (q8, mn1), (q9, mn1), (q10, mn1), (q11, mn1)]) [0, 1, 2, 3, 4, 5, 6, 7, 8, 9, 10, 11] (by decide) rfl
  refine W.widen (k := 11) (n := 91) (Nat.le_of_ble_eq_true rfl) (Nat.le_of_ble_eq_true rfl) ?_
  exact W.vret hx hb hr (fun t ht hW => ⟨⟨(), rfl, trivial, q1, q2, q3, q4, q5, q6, q7, q8, q9, q10, q11, by rw [ht]; exact hP9, va_K.moved hW.alike hK, hD9⟩, hS.F ht⟩) hS.2.2 (show decode prog_7_method_1_code 20 = .ok (.return_, 1) by decide +kernel)
