/-! a court's constructor -/
theorem nr_o3 {D : va_G} {cy : Nat → ClassId} {cA : ClassId} {s : State} (hK : va_K D cls9 (tys cy ++ [(cA, .object RX3)]) s) : cA = cy 2 ∧ va_K D cls9 (tys cy) s := by
  obtain ⟨_, _, _, _, _, h0⟩ := (hK.2 2 (cy 2, .object RX3) rfl).2
  obtain ⟨_, _, _, _, _, h4⟩ := (hK.2 4 (cA, .object RX3) rfl).2
  exact ⟨Option.some.inj (h4.symm.trans h0), hK.sub [0, 1, 2, 3] rfl⟩
theorem gi_Mn : GoodIn GW (UW mMn_init) := GW_GoodIn (fun w hw => by
  rcases List.mem_cons.mp hw with h | h
  · subst h; exact kMn_init.1
  · exact h)
abbrev e0_Ct : va_E := .inr (2, [.null, .int 0, .null, .int 0, .int 0])
set_option maxHeartbeats 4000000 in
set_option maxRecDepth 100000 in
theorem i_Ct (l : Launch) (D : va_G) (cy : Nat → ClassId) (h0 : Nat) (sz : Nat) : Met l mCt_init.2.1 (UW mCt_init) { frames := 2, cells := 10, slots := 86, locals := 120 } (va_Pc [.ref h0] (fun U => U.heap.size = sz ∧ va_P D cls9 [(h0, e0_Ct)] U.heap ∧ va_K D cls9 (tys cy) U ∧ va_D (fun _ => True) [(h0, e0_Ct)] ∧ (∀ w ∈ lw_tbl.filter nestWord, va_Nw w U) ∧ va_AO RX3 U)) (va_Qv (fun _ : Unit => True) (fun _ t => ∃ q1 q2 q3 q4 q5 q6 q7 q8 q9 q10 : Nat, va_P D cls9 [(h0, .inr (2, [.ref q1, .int 0, .ref q2, .int 0, .int (1)])), (q1, .inl (cy 2, (8, .inr (.inr (.inr (.inr (va_up (va_up (va_up (va_up (va_up (va_up (va_up (va_up (fun _ => none) 0 (some q3)) 1 (some q4)) 2 (some q5)) 3 (some q6)) 4 (some q7)) 5 (some q8)) 6 (some q9)) 7 (some q10)))))))), (q2, .inl (cy 0, (30, .inl (fun _ => 0)))), (q3, mn1), (q4, mn1), (q5, mn1), (q6, mn1), (q7, mn1), (q8, mn1), (q9, mn1), (q10, mn1)] t.heap ∧ va_K D cls9 (tys cy) t ∧ va_D (va_A [(h0, e0_Ct)] sz) [(h0, .inr (2, [.ref q1, .int 0, .ref q2, .int 0, .int (1)])), (q1, .inl (cy 2, (8, .inr (.inr (.inr (.inr (va_up (va_up (va_up (va_up (va_up (va_up (va_up (va_up (fun _ => none) 0 (some q3)) 1 (some q4)) 2 (some q5)) 3 (some q6)) 4 (some q7)) 5 (some q8)) 6 (some q9)) 7 (some q10)))))))), (q2, .inl (cy 0, (30, .inl (fun _ => 0)))), (q3, mn1), (q4, mn1), (q5, mn1), (q6, mn1), (q7, mn1), (q8, mn1), (q9, mn1), (q10, mn1)]) (va_A [(h0, e0_Ct)] sz)) 10 86 (va_A [(h0, e0_Ct)] sz) := by
  refine Met.ofW (cc := prog_4_method_1_code) (maxL := 2) (ret := none) (by decide) rfl ?_
  intro p e s m args below meth c s₁ B hml hv
  obtain ⟨rfl, hsz, hP, hK, hD0, hnest, hAO⟩ := hv
  have hx := B.exec
  have hb := B.bytes
  have hr := B.returns
  have hts0 := atoms_spec (ws := UW mCt_init) B.pre
  have hts : ∀ w ∈ GW, w.before _ s = true := fun w h => hts0 w (List.mem_cons_of_mem _ h)
  have hown : s.vm.findClass RX2 = some m.cls := findClass_of_methodNamed B.named
  have hlocks := B.notSynchronized
  have hin : meth.name = "<init>" := (name_of_methodNamed B.named B.method).1
  subst hsz
  have hD := hD0.self (sz := s.heap.size)
  generalize hAe : va_A [(h0, e0_Ct)] s.heap.size = A at hD ⊢
  have hA : ∀ q : Nat, s.heap.size ≤ q → A q := fun q h => by rw [← hAe]; exact Or.inr h
  have hS : va_S A s.heap s.heap [] := va_S.rf
  have hl := lv_entry ([.ref h0]) (n := 2) (Nat.le_of_ble_eq_true rfl)
  rw [lg_entry_eq]
  generalize (lg_sl ([.ref h0]) ++ List.replicate (2 - (lg_sl ([.ref h0])).length) Slot.unset).toArray = ls at hl ⊢
  have hl : lv_has ls 2 [(0, .ref h0)] := hl
  refine lv_aload_n hx hb (show decode prog_4_method_1_code 0 = .ok (.aload_n 0, 1) by decide +kernel) rfl (lv_at hl 0 rfl) ?_
  refine W.objInit hx hb hown (hts (.methodLink RX2 3 Lib.objectInit) (wi 1 31 rfl rfl)) (hts _ oi_i) (hts _ oi_c) rfl (by rw [hml]; exact hl.1) rfl (show decode prog_4_method_1_code 1 = .ok (.invokespecial 3, 3) by decide +kernel) (Nat.le_of_ble_eq_true rfl) (Nat.le_of_ble_eq_true rfl) ?_
  refine W.eq (g2 := F0 m 4 ls []) rfl ?_
  refine lv_aload_n hx hb (show decode prog_4_method_1_code 4 = .ok (.aload_n 0, 1) by decide +kernel) rfl (lv_at hl 0 rfl) ?_
  refine lv_bipush (v := 8) hx hb (show decode prog_4_method_1_code 5 = .ok (.bipush 8, 2) by decide +kernel) (by decide) ?_
  refine va_newq (C := RX3) (N' := 8) hx hb hown (hts (.classLink RX2 9 RX3) (wi 1 32 rfl rfl)) hAO hK hP hD hS hA (by decide) rfl (by decide) (Nat.le_of_ble_eq_true rfl) (Nat.le_of_ble_eq_true rfl) (show decode prog_4_method_1_code 7 = .ok (.anewarray 9, 3) by decide +kernel) (fun q1 cA H hK hP hD hS => ?_)
  obtain ⟨e9, hK9⟩ := nr_o3 hK
  subst e9
  replace hK := hK9
  have hP : va_P D cls9 [(h0, .inr (2, [.null, .int 0, .null, .int 0, .int 0])), (q1, .inl (cy 2, (8, .inr (.inr (.inr (.inr (fun _ => none)))))))] H := hP
  have hD : va_D A [(h0, .inr (2, [.null, .int 0, .null, .int 0, .int 0])), (q1, .inl (cy 2, (8, .inr (.inr (.inr (.inr (fun _ => none)))))))] := hD
  refine va_putF (D := D) (ci := 2) (v := .ref q1) (ty := .array (.object RX3)) (C := RX2) (T := TX2) (N := 5) hx hb hts us_2 tyX2 tyX2_ok nmX2 hown hK hP hD hS 0 rfl rfl 0 (by decide) (hts (.fieldLink RX2 11 RX2 "men" "[LEveryonesThirdWord$Man;") (wi 1 74 rfl rfl)) (fun _ h9 => h9) rfl hin rfl (by decide +kernel) rfl rfl (Nat.le_of_ble_eq_true rfl) (show decode prog_4_method_1_code 10 = .ok (.putfield 11, 3) by decide +kernel) (fun H locs hP hD hS => ?_)
  have hP : va_P D cls9 [(h0, .inr (2, [.ref q1, .int 0, .null, .int 0, .int 0])), (q1, .inl (cy 2, (8, .inr (.inr (.inr (.inr (fun _ => none)))))))] H := hP
  have hD : va_D A [(h0, .inr (2, [.ref q1, .int 0, .null, .int 0, .int 0])), (q1, .inl (cy 2, (8, .inr (.inr (.inr (.inr (fun _ => none)))))))] := hD
  refine lv_aload_n hx hb (show decode prog_4_method_1_code 13 = .ok (.aload_n 0, 1) by decide +kernel) rfl (lv_at hl 0 rfl) ?_
  refine lv_bipush (v := 30) hx hb (show decode prog_4_method_1_code 14 = .ok (.bipush 30, 2) by decide +kernel) (by decide) ?_
  refine va_newa (ty := .int) (N' := 30) (a0 := (30, .inl (fun _ => 0))) hx hb (hts _ (wi 1 73 rfl rfl)) rfl hK hP hD hS hA (fun _ => rfl) (by decide) rfl (by decide) (Nat.le_of_ble_eq_true rfl) (Nat.le_of_ble_eq_true rfl) (show decode prog_4_method_1_code 16 = .ok (.newarray .int, 2) by decide +kernel) (fun q2 cA H hK hP hD hS => ?_)
  obtain ⟨e9, hK9⟩ := nr_int hK
  subst e9
  replace hK := hK9
  have hP : va_P D cls9 [(h0, .inr (2, [.ref q1, .int 0, .null, .int 0, .int 0])), (q1, .inl (cy 2, (8, .inr (.inr (.inr (.inr (fun _ => none))))))), (q2, .inl (cy 0, (30, .inl (fun _ => 0))))] H := hP
  have hD : va_D A [(h0, .inr (2, [.ref q1, .int 0, .null, .int 0, .int 0])), (q1, .inl (cy 2, (8, .inr (.inr (.inr (.inr (fun _ => none))))))), (q2, .inl (cy 0, (30, .inl (fun _ => 0))))] := hD
  refine va_putF (D := D) (ci := 2) (v := .ref q2) (ty := .array .int) (C := RX2) (T := TX2) (N := 5) hx hb hts us_2 tyX2 tyX2_ok nmX2 hown hK hP hD hS 0 rfl rfl 2 (by decide) (hts (.fieldLink RX2 17 RX2 "saying" "[I") (wi 1 83 rfl rfl)) (fun _ h9 => h9) rfl hin rfl (by decide +kernel) rfl rfl (Nat.le_of_ble_eq_true rfl) (show decode prog_4_method_1_code 18 = .ok (.putfield 17, 3) by decide +kernel) (fun H locs hP hD hS => ?_)
  have hP : va_P D cls9 [(h0, .inr (2, [.ref q1, .int 0, .ref q2, .int 0, .int 0])), (q1, .inl (cy 2, (8, .inr (.inr (.inr (.inr (fun _ => none))))))), (q2, .inl (cy 0, (30, .inl (fun _ => 0))))] H := hP
  have hD : va_D A [(h0, .inr (2, [.ref q1, .int 0, .ref q2, .int 0, .int 0])), (q1, .inl (cy 2, (8, .inr (.inr (.inr (.inr (fun _ => none))))))), (q2, .inl (cy 0, (30, .inl (fun _ => 0))))] := hD
  refine lv_aload_n hx hb (show decode prog_4_method_1_code 21 = .ok (.aload_n 0, 1) by decide +kernel) rfl (lv_at hl 0 rfl) ?_
  refine lv_iconst (v := 1) hx hb (show decode prog_4_method_1_code 22 = .ok (.iconst 1, 1) by decide +kernel) (by decide) ?_
  refine va_put (D := D) (ci := 2) (v := .int (1)) (ty := .int) (C := RX2) (T := TX2) (N := 5) hx hb hts us_2 tyX2 tyX2_ok nmX2 hown hK hP hD hS 0 rfl rfl 4 (by decide) (hts (.fieldLink RX2 21 RX2 "seed" "I") (wi 1 90 rfl rfl)) (fun _ h9 => h9) rfl (by decide +kernel) rfl rfl (Nat.le_of_ble_eq_true rfl) (show decode prog_4_method_1_code 23 = .ok (.putfield 21, 3) by decide +kernel) (fun H locs hP hD hS => ?_)
  have hP : va_P D cls9 [(h0, .inr (2, [.ref q1, .int 0, .ref q2, .int 0, .int (1)])), (q1, .inl (cy 2, (8, .inr (.inr (.inr (.inr (fun _ => none))))))), (q2, .inl (cy 0, (30, .inl (fun _ => 0))))] H := hP
  have hD : va_D A [(h0, .inr (2, [.ref q1, .int 0, .ref q2, .int 0, .int (1)])), (q1, .inl (cy 2, (8, .inr (.inr (.inr (.inr (fun _ => none))))))), (q2, .inl (cy 0, (30, .inl (fun _ => 0))))] := hD
  refine lv_iconst (v := 0) hx hb (show decode prog_4_method_1_code 26 = .ok (.iconst 0, 1) by decide +kernel) (by decide) ?_
  refine lv_istore_n (lv' := [(1, .int 0), (0, .ref h0)]) hx hb (show decode prog_4_method_1_code 27 = .ok (.istore_n 1, 1) by decide +kernel) rfl hl (by decide) rfl (fun ls hl => ?_)
  refine lv_iload_n hx hb (show decode prog_4_method_1_code 28 = .ok (.iload_n 1, 1) by decide +kernel) rfl (lv_at hl 0 rfl) ?_
  refine lv_bipush (v := 8) hx hb (show decode prog_4_method_1_code 29 = .ok (.bipush 8, 2) by decide +kernel) (by decide) ?_
  refine lv_icmp_ge (tgt := 53) hx hb (show decode prog_4_method_1_code 31 = .ok (.if_icmp .ge 22, 3) by decide +kernel) (by decide) (fun z => absurd z (by decide)) (fun _ => ?_)
  refine lv_aload_n hx hb (show decode prog_4_method_1_code 34 = .ok (.aload_n 0, 1) by decide +kernel) rfl (lv_at hl 1 rfl) ?_
  refine va_get (D := D) (ci := 2) (v := .ref q1) (C := RX2) (T := TX2) (N := 5) hx hb hts us_2 hown hK hP 0 rfl rfl 0 (by decide) (hts (.fieldLink RX2 11 RX2 "men" "[LEveryonesThirdWord$Man;") (wi 1 74 rfl rfl)) (fun _ h9 => h9) rfl (show decode prog_4_method_1_code 35 = .ok (.getfield 11, 3) by decide +kernel) ?_
  refine lv_iload_n hx hb (show decode prog_4_method_1_code 38 = .ok (.iload_n 1, 1) by decide +kernel) rfl (lv_at hl 0 rfl) ?_
  refine va_new (ci := 3) (fs := [.int 0, .int 0, .int 0, .int 0, .int 0, .int 0]) (C := RX3) (T := TX3) (N := 6) hx hb hts us_3 tyX3 tyX3_ok hown (hts (.classLink RX2 9 RX3) (wi 1 32 rfl rfl)) (hts (.instantiable RX3 6) (wi 1 34 rfl rfl)) (hts (.initialized RX3) kMn_init.2.1) hK hP hD hS hA rfl (fun j hj => by rcases (show j = 0 ∨ j = 1 ∨ j = 2 ∨ j = 3 ∨ j = 4 ∨ j = 5 by omega) with rfl | rfl | rfl | rfl | rfl | rfl <;> rfl) (Nat.le_of_ble_eq_true rfl) (Nat.le_of_ble_eq_true rfl) (show decode prog_4_method_1_code 39 = .ok (.new 9, 3) by decide +kernel) (fun q3 H hP hD hS => ?_)
  have hP : va_P D cls9 [(h0, .inr (2, [.ref q1, .int 0, .ref q2, .int 0, .int (1)])), (q1, .inl (cy 2, (8, .inr (.inr (.inr (.inr (fun _ => none))))))), (q2, .inl (cy 0, (30, .inl (fun _ => 0)))), (q3, mn0)] H := hP
  have hD : va_D A [(h0, .inr (2, [.ref q1, .int 0, .ref q2, .int 0, .int (1)])), (q1, .inl (cy 2, (8, .inr (.inr (.inr (.inr (fun _ => none))))))), (q2, .inl (cy 0, (30, .inl (fun _ => 0)))), (q3, mn0)] := hD
  refine lv_dup hx hb (show decode prog_4_method_1_code 42 = .ok (.dup, 1) by decide +kernel) rfl ?_
  have hPc := hP.sub (ws' := [(q3, mn0)]) [3] rfl
  have hDc := hD.sub (ws' := [(q3, mn0)]) [3] (by decide) rfl
  have hKc := hK.sub (tys' := []) [] rfl
  have hFc := va_free (wc := [(q3, mn0)]) hD hS hA [3] rfl
  refine va_callv (va_runIN (Ts := GW) (As := []) (rest := [.ref q3, .int 0, .ref q1]) ⟨hx, hb, hml, hown, hts⟩ (i_Mn l D q3 H.size) ⟨va_cnB 0 hts gi_Mn rfl rfl rfl (hnest _ (wn 1 35 rfl rfl)) (hts _ kMn_init.2.1) ⟨kMn_init.2.2.2.2.1, kMn_init.2.2.2.2.2.1, by decide +kernel⟩ ⟨Nat.le_of_ble_eq_true rfl, Nat.le_of_ble_eq_true rfl⟩, rfl, hts (.instanceMethod mMn_init.2.1) (wi 1 36 rfl rfl)⟩ ⟨fun a U g mk q => by obtain ⟨q0, q1, qP, qK, qD⟩ := q; exact ⟨q0, q1, qP, va_K.moved (u := U) (U := U.calling g mk a) (Vm.Alike.refl U.vm) qK, qD⟩, fun U hU hW => ⟨rfl, by rw [hU], by rw [hU]; exact hPc, va_K.moved hW.alike hKc, hDc.weaken (fun _ _ _ _ => trivial)⟩⟩ rfl rfl hl.1 rfl (lv_room (Nat.le_of_ble_eq_true rfl)) (show decode prog_4_method_1_code 43 = .ok (.invokespecial 25, 3) by decide +kernel) ⟨Nat.le_of_ble_eq_true rfl, Nat.le_of_ble_eq_true rfl⟩) hS (fun q _ h => hFc q h) hFc (fun u t H1 locs ht hvm hw hB hz1 hk1 hS => ?_)
  obtain ⟨hP1, hK1, hD1⟩ := hB
  rw [ht] at hP1
  obtain ⟨hP, hD⟩ := va_join (wr := [(h0, .inr (2, [.ref q1, .int 0, .ref q2, .int 0, .int (1)])), (q1, .inl (cy 2, (8, .inr (.inr (.inr (.inr (fun _ => none))))))), (q2, .inl (cy 0, (30, .inl (fun _ => 0))))]) (w1 := [(q3, mn1)]) hP hD [3] [0, 1, 2] rfl rfl (by decide) (by decide) hk1 hFc hP1 hD1
  clear hk1 hFc hPc hDc hP1 hD1 hz1 ht
  generalize H1 = H at hP hS ⊢
  have hP : va_P D cls9 [(h0, .inr (2, [.ref q1, .int 0, .ref q2, .int 0, .int (1)])), (q1, .inl (cy 2, (8, .inr (.inr (.inr (.inr (fun _ => none))))))), (q2, .inl (cy 0, (30, .inl (fun _ => 0)))), (q3, mn1)] H := hP
  have hD : va_D A [(h0, .inr (2, [.ref q1, .int 0, .ref q2, .int 0, .int (1)])), (q1, .inl (cy 2, (8, .inr (.inr (.inr (.inr (fun _ => none))))))), (q2, .inl (cy 0, (30, .inl (fun _ => 0)))), (q3, mn1)] := hD
  refine va_astq hx hb hK hP hD hS 1 2 3 3 rfl rfl rfl rfl (vpb_ok (by decide)) (show decode prog_4_method_1_code 46 = .ok (.aastore, 1) by decide +kernel) (fun H locs hP hD hS => ?_)
  have hP : va_P D cls9 [(h0, .inr (2, [.ref q1, .int 0, .ref q2, .int 0, .int (1)])), (q1, .inl (cy 2, (8, .inr (.inr (.inr (.inr (va_up (fun _ => none) 0 (some q3)))))))), (q2, .inl (cy 0, (30, .inl (fun _ => 0)))), (q3, mn1)] H := hP
  have hD : va_D A [(h0, .inr (2, [.ref q1, .int 0, .ref q2, .int 0, .int (1)])), (q1, .inl (cy 2, (8, .inr (.inr (.inr (.inr (va_up (fun _ => none) 0 (some q3)))))))), (q2, .inl (cy 0, (30, .inl (fun _ => 0)))), (q3, mn1)] := hD
  refine lv_iinc (v := 1) (lv' := [(1, .int 1), (0, .ref h0)]) hx hb (show decode prog_4_method_1_code 47 = .ok (.iinc 1 1, 3) by decide +kernel) hl (k := 0) rfl (by decide) (by decide) rfl (fun ls hl => ?_)
  refine lv_goto (tgt := 28) hx hb (show decode prog_4_method_1_code 50 = .ok (.goto (-22), 3) by decide +kernel) (by decide) ?_
  refine lv_iload_n hx hb (show decode prog_4_method_1_code 28 = .ok (.iload_n 1, 1) by decide +kernel) rfl (lv_at hl 0 rfl) ?_
  refine lv_bipush (v := 8) hx hb (show decode prog_4_method_1_code 29 = .ok (.bipush 8, 2) by decide +kernel) (by decide) ?_
  refine lv_icmp_ge (tgt := 53) hx hb (show decode prog_4_method_1_code 31 = .ok (.if_icmp .ge 22, 3) by decide +kernel) (by decide) (fun z => absurd z (by decide)) (fun _ => ?_)
  refine lv_aload_n hx hb (show decode prog_4_method_1_code 34 = .ok (.aload_n 0, 1) by decide +kernel) rfl (lv_at hl 1 rfl) ?_
  refine va_get (D := D) (ci := 2) (v := .ref q1) (C := RX2) (T := TX2) (N := 5) hx hb hts us_2 hown hK hP 0 rfl rfl 0 (by decide) (hts (.fieldLink RX2 11 RX2 "men" "[LEveryonesThirdWord$Man;") (wi 1 74 rfl rfl)) (fun _ h9 => h9) rfl (show decode prog_4_method_1_code 35 = .ok (.getfield 11, 3) by decide +kernel) ?_
  refine lv_iload_n hx hb (show decode prog_4_method_1_code 38 = .ok (.iload_n 1, 1) by decide +kernel) rfl (lv_at hl 0 rfl) ?_
  refine va_new (ci := 3) (fs := [.int 0, .int 0, .int 0, .int 0, .int 0, .int 0]) (C := RX3) (T := TX3) (N := 6) hx hb hts us_3 tyX3 tyX3_ok hown (hts (.classLink RX2 9 RX3) (wi 1 32 rfl rfl)) (hts (.instantiable RX3 6) (wi 1 34 rfl rfl)) (hts (.initialized RX3) kMn_init.2.1) hK hP hD hS hA rfl (fun j hj => by rcases (show j = 0 ∨ j = 1 ∨ j = 2 ∨ j = 3 ∨ j = 4 ∨ j = 5 by omega) with rfl | rfl | rfl | rfl | rfl | rfl <;> rfl) (Nat.le_of_ble_eq_true rfl) (Nat.le_of_ble_eq_true rfl) (show decode prog_4_method_1_code 39 = .ok (.new 9, 3) by decide +kernel) (fun q4 H hP hD hS => ?_)
  have hP : va_P D cls9 [(h0, .inr (2, [.ref q1, .int 0, .ref q2, .int 0, .int (1)])), (q1, .inl (cy 2, (8, .inr (.inr (.inr (.inr (va_up (fun _ => none) 0 (some q3)))))))), (q2, .inl (cy 0, (30, .inl (fun _ => 0)))), (q3, mn1), (q4, mn0)] H := hP
  have hD : va_D A [(h0, .inr (2, [.ref q1, .int 0, .ref q2, .int 0, .int (1)])), (q1, .inl (cy 2, (8, .inr (.inr (.inr (.inr (va_up (fun _ => none) 0 (some q3)))))))), (q2, .inl (cy 0, (30, .inl (fun _ => 0)))), (q3, mn1), (q4, mn0)] := hD
  refine lv_dup hx hb (show decode prog_4_method_1_code 42 = .ok (.dup, 1) by decide +kernel) rfl ?_
  have hPc := hP.sub (ws' := [(q4, mn0)]) [4] rfl
  have hDc := hD.sub (ws' := [(q4, mn0)]) [4] (by decide) rfl
  have hKc := hK.sub (tys' := []) [] rfl
  have hFc := va_free (wc := [(q4, mn0)]) hD hS hA [4] rfl
  refine va_callv (va_runIN (Ts := GW) (As := []) (rest := [.ref q4, .int 1, .ref q1]) ⟨hx, hb, hml, hown, hts⟩ (i_Mn l D q4 H.size) ⟨va_cnB 0 hts gi_Mn rfl rfl rfl (hnest _ (wn 1 35 rfl rfl)) (hts _ kMn_init.2.1) ⟨kMn_init.2.2.2.2.1, kMn_init.2.2.2.2.2.1, by decide +kernel⟩ ⟨Nat.le_of_ble_eq_true rfl, Nat.le_of_ble_eq_true rfl⟩, rfl, hts (.instanceMethod mMn_init.2.1) (wi 1 36 rfl rfl)⟩ ⟨fun a U g mk q => by obtain ⟨q0, q1, qP, qK, qD⟩ := q; exact ⟨q0, q1, qP, va_K.moved (u := U) (U := U.calling g mk a) (Vm.Alike.refl U.vm) qK, qD⟩, fun U hU hW => ⟨rfl, by rw [hU], by rw [hU]; exact hPc, va_K.moved hW.alike hKc, hDc.weaken (fun _ _ _ _ => trivial)⟩⟩ rfl rfl hl.1 rfl (lv_room (Nat.le_of_ble_eq_true rfl)) (show decode prog_4_method_1_code 43 = .ok (.invokespecial 25, 3) by decide +kernel) ⟨Nat.le_of_ble_eq_true rfl, Nat.le_of_ble_eq_true rfl⟩) hS (fun q _ h => hFc q h) hFc (fun u t H1 locs ht hvm hw hB hz1 hk1 hS => ?_)
  obtain ⟨hP1, hK1, hD1⟩ := hB
  rw [ht] at hP1
  obtain ⟨hP, hD⟩ := va_join (wr := [(h0, .inr (2, [.ref q1, .int 0, .ref q2, .int 0, .int (1)])), (q1, .inl (cy 2, (8, .inr (.inr (.inr (.inr (va_up (fun _ => none) 0 (some q3)))))))), (q2, .inl (cy 0, (30, .inl (fun _ => 0)))), (q3, mn1)]) (w1 := [(q4, mn1)]) hP hD [4] [0, 1, 2, 3] rfl rfl (by decide) (by decide) hk1 hFc hP1 hD1
  clear hk1 hFc hPc hDc hP1 hD1 hz1 ht
  generalize H1 = H at hP hS ⊢
  have hP : va_P D cls9 [(h0, .inr (2, [.ref q1, .int 0, .ref q2, .int 0, .int (1)])), (q1, .inl (cy 2, (8, .inr (.inr (.inr (.inr (va_up (fun _ => none) 0 (some q3)))))))), (q2, .inl (cy 0, (30, .inl (fun _ => 0)))), (q3, mn1), (q4, mn1)] H := hP
  have hD : va_D A [(h0, .inr (2, [.ref q1, .int 0, .ref q2, .int 0, .int (1)])), (q1, .inl (cy 2, (8, .inr (.inr (.inr (.inr (va_up (fun _ => none) 0 (some q3)))))))), (q2, .inl (cy 0, (30, .inl (fun _ => 0)))), (q3, mn1), (q4, mn1)] := hD
  refine va_astq hx hb hK hP hD hS 1 2 4 3 rfl rfl rfl rfl (vpb_ok (by decide)) (show decode prog_4_method_1_code 46 = .ok (.aastore, 1) by decide +kernel) (fun H locs hP hD hS => ?_)
  have hP : va_P D cls9 [(h0, .inr (2, [.ref q1, .int 0, .ref q2, .int 0, .int (1)])), (q1, .inl (cy 2, (8, .inr (.inr (.inr (.inr (va_up (va_up (fun _ => none) 0 (some q3)) 1 (some q4)))))))), (q2, .inl (cy 0, (30, .inl (fun _ => 0)))), (q3, mn1), (q4, mn1)] H := hP
  have hD : va_D A [(h0, .inr (2, [.ref q1, .int 0, .ref q2, .int 0, .int (1)])), (q1, .inl (cy 2, (8, .inr (.inr (.inr (.inr (va_up (va_up (fun _ => none) 0 (some q3)) 1 (some q4)))))))), (q2, .inl (cy 0, (30, .inl (fun _ => 0)))), (q3, mn1), (q4, mn1)] := hD
  refine lv_iinc (v := 2) (lv' := [(1, .int 2), (0, .ref h0)]) hx hb (show decode prog_4_method_1_code 47 = .ok (.iinc 1 1, 3) by decide +kernel) hl (k := 0) rfl (by decide) (by decide) rfl (fun ls hl => ?_)
  refine lv_goto (tgt := 28) hx hb (show decode prog_4_method_1_code 50 = .ok (.goto (-22), 3) by decide +kernel) (by decide) ?_
  refine lv_iload_n hx hb (show decode prog_4_method_1_code 28 = .ok (.iload_n 1, 1) by decide +kernel) rfl (lv_at hl 0 rfl) ?_
  refine lv_bipush (v := 8) hx hb (show decode prog_4_method_1_code 29 = .ok (.bipush 8, 2) by decide +kernel) (by decide) ?_
  refine lv_icmp_ge (tgt := 53) hx hb (show decode prog_4_method_1_code 31 = .ok (.if_icmp .ge 22, 3) by decide +kernel) (by decide) (fun z => absurd z (by decide)) (fun _ => ?_)
  refine lv_aload_n hx hb (show decode prog_4_method_1_code 34 = .ok (.aload_n 0, 1) by decide +kernel) rfl (lv_at hl 1 rfl) ?_
  refine va_get (D := D) (ci := 2) (v := .ref q1) (C := RX2) (T := TX2) (N := 5) hx hb hts us_2 hown hK hP 0 rfl rfl 0 (by decide) (hts (.fieldLink RX2 11 RX2 "men" "[LEveryonesThirdWord$Man;") (wi 1 74 rfl rfl)) (fun _ h9 => h9) rfl (show decode prog_4_method_1_code 35 = .ok (.getfield 11, 3) by decide +kernel) ?_
  refine lv_iload_n hx hb (show decode prog_4_method_1_code 38 = .ok (.iload_n 1, 1) by decide +kernel) rfl (lv_at hl 0 rfl) ?_
  refine va_new (ci := 3) (fs := [.int 0, .int 0, .int 0, .int 0, .int 0, .int 0]) (C := RX3) (T := TX3) (N := 6) hx hb hts us_3 tyX3 tyX3_ok hown (hts (.classLink RX2 9 RX3) (wi 1 32 rfl rfl)) (hts (.instantiable RX3 6) (wi 1 34 rfl rfl)) (hts (.initialized RX3) kMn_init.2.1) hK hP hD hS hA rfl (fun j hj => by rcases (show j = 0 ∨ j = 1 ∨ j = 2 ∨ j = 3 ∨ j = 4 ∨ j = 5 by omega) with rfl | rfl | rfl | rfl | rfl | rfl <;> rfl) (Nat.le_of_ble_eq_true rfl) (Nat.le_of_ble_eq_true rfl) (show decode prog_4_method_1_code 39 = .ok (.new 9, 3) by decide +kernel) (fun q5 H hP hD hS => ?_)
  have hP : va_P D cls9 [(h0, .inr (2, [.ref q1, .int 0, .ref q2, .int 0, .int (1)])), (q1, .inl (cy 2, (8, .inr (.inr (.inr (.inr (va_up (va_up (fun _ => none) 0 (some q3)) 1 (some q4)))))))), (q2, .inl (cy 0, (30, .inl (fun _ => 0)))), (q3, mn1), (q4, mn1), (q5, mn0)] H := hP
  have hD : va_D A [(h0, .inr (2, [.ref q1, .int 0, .ref q2, .int 0, .int (1)])), (q1, .inl (cy 2, (8, .inr (.inr (.inr (.inr (va_up (va_up (fun _ => none) 0 (some q3)) 1 (some q4)))))))), (q2, .inl (cy 0, (30, .inl (fun _ => 0)))), (q3, mn1), (q4, mn1), (q5, mn0)] := hD
  refine lv_dup hx hb (show decode prog_4_method_1_code 42 = .ok (.dup, 1) by decide +kernel) rfl ?_
  have hPc := hP.sub (ws' := [(q5, mn0)]) [5] rfl
  have hDc := hD.sub (ws' := [(q5, mn0)]) [5] (by decide) rfl
  have hKc := hK.sub (tys' := []) [] rfl
  have hFc := va_free (wc := [(q5, mn0)]) hD hS hA [5] rfl
  refine va_callv (va_runIN (Ts := GW) (As := []) (rest := [.ref q5, .int 2, .ref q1]) ⟨hx, hb, hml, hown, hts⟩ (i_Mn l D q5 H.size) ⟨va_cnB 0 hts gi_Mn rfl rfl rfl (hnest _ (wn 1 35 rfl rfl)) (hts _ kMn_init.2.1) ⟨kMn_init.2.2.2.2.1, kMn_init.2.2.2.2.2.1, by decide +kernel⟩ ⟨Nat.le_of_ble_eq_true rfl, Nat.le_of_ble_eq_true rfl⟩, rfl, hts (.instanceMethod mMn_init.2.1) (wi 1 36 rfl rfl)⟩ ⟨fun a U g mk q => by obtain ⟨q0, q1, qP, qK, qD⟩ := q; exact ⟨q0, q1, qP, va_K.moved (u := U) (U := U.calling g mk a) (Vm.Alike.refl U.vm) qK, qD⟩, fun U hU hW => ⟨rfl, by rw [hU], by rw [hU]; exact hPc, va_K.moved hW.alike hKc, hDc.weaken (fun _ _ _ _ => trivial)⟩⟩ rfl rfl hl.1 rfl (lv_room (Nat.le_of_ble_eq_true rfl)) (show decode prog_4_method_1_code 43 = .ok (.invokespecial 25, 3) by decide +kernel) ⟨Nat.le_of_ble_eq_true rfl, Nat.le_of_ble_eq_true rfl⟩) hS (fun q _ h => hFc q h) hFc (fun u t H1 locs ht hvm hw hB hz1 hk1 hS => ?_)
  obtain ⟨hP1, hK1, hD1⟩ := hB
  rw [ht] at hP1
  obtain ⟨hP, hD⟩ := va_join (wr := [(h0, .inr (2, [.ref q1, .int 0, .ref q2, .int 0, .int (1)])), (q1, .inl (cy 2, (8, .inr (.inr (.inr (.inr (va_up (va_up (fun _ => none) 0 (some q3)) 1 (some q4)))))))), (q2, .inl (cy 0, (30, .inl (fun _ => 0)))), (q3, mn1), (q4, mn1)]) (w1 := [(q5, mn1)]) hP hD [5] [0, 1, 2, 3, 4] rfl rfl (by decide) (by decide) hk1 hFc hP1 hD1
  clear hk1 hFc hPc hDc hP1 hD1 hz1 ht
  generalize H1 = H at hP hS ⊢
  have hP : va_P D cls9 [(h0, .inr (2, [.ref q1, .int 0, .ref q2, .int 0, .int (1)])), (q1, .inl (cy 2, (8, .inr (.inr (.inr (.inr (va_up (va_up (fun _ => none) 0 (some q3)) 1 (some q4)))))))), (q2, .inl (cy 0, (30, .inl (fun _ => 0)))), (q3, mn1), (q4, mn1), (q5, mn1)] H := hP
  have hD : va_D A [(h0, .inr (2, [.ref q1, .int 0, .ref q2, .int 0, .int (1)])), (q1, .inl (cy 2, (8, .inr (.inr (.inr (.inr (va_up (va_up (fun _ => none) 0 (some q3)) 1 (some q4)))))))), (q2, .inl (cy 0, (30, .inl (fun _ => 0)))), (q3, mn1), (q4, mn1), (q5, mn1)] := hD
  refine va_astq hx hb hK hP hD hS 1 2 5 3 rfl rfl rfl rfl (vpb_ok (by decide)) (show decode prog_4_method_1_code 46 = .ok (.aastore, 1) by decide +kernel) (fun H locs hP hD hS => ?_)
  have hP : va_P D cls9 [(h0, .inr (2, [.ref q1, .int 0, .ref q2, .int 0, .int (1)])), (q1, .inl (cy 2, (8, .inr (.inr (.inr (.inr (va_up (va_up (va_up (fun _ => none) 0 (some q3)) 1 (some q4)) 2 (some q5)))))))), (q2, .inl (cy 0, (30, .inl (fun _ => 0)))), (q3, mn1), (q4, mn1), (q5, mn1)] H := hP
  have hD : va_D A [(h0, .inr (2, [.ref q1, .int 0, .ref q2, .int 0, .int (1)])), (q1, .inl (cy 2, (8, .inr (.inr (.inr (.inr (va_up (va_up (va_up (fun _ => none) 0 (some q3)) 1 (some q4)) 2 (some q5)))))))), (q2, .inl (cy 0, (30, .inl (fun _ => 0)))), (q3, mn1), (q4, mn1), (q5, mn1)] := hD
  refine lv_iinc (v := 3) (lv' := [(1, .int 3), (0, .ref h0)]) hx hb (show decode prog_4_method_1_code 47 = .ok (.iinc 1 1, 3) by decide +kernel) hl (k := 0) rfl (by decide) (by decide) rfl (fun ls hl => ?_)
  refine lv_goto (tgt := 28) hx hb (show decode prog_4_method_1_code 50 = .ok (.goto (-22), 3) by decide +kernel) (by decide) ?_
  refine lv_iload_n hx hb (show decode prog_4_method_1_code 28 = .ok (.iload_n 1, 1) by decide +kernel) rfl (lv_at hl 0 rfl) ?_
  refine lv_bipush (v := 8) hx hb (show decode prog_4_method_1_code 29 = .ok (.bipush 8, 2) by decide +kernel) (by decide) ?_
  refine lv_icmp_ge (tgt := 53) hx hb (show decode prog_4_method_1_code 31 = .ok (.if_icmp .ge 22, 3) by decide +kernel) (by decide) (fun z => absurd z (by decide)) (fun _ => ?_)
  refine lv_aload_n hx hb (show decode prog_4_method_1_code 34 = .ok (.aload_n 0, 1) by decide +kernel) rfl (lv_at hl 1 rfl) ?_
  refine va_get (D := D) (ci := 2) (v := .ref q1) (C := RX2) (T := TX2) (N := 5) hx hb hts us_2 hown hK hP 0 rfl rfl 0 (by decide) (hts (.fieldLink RX2 11 RX2 "men" "[LEveryonesThirdWord$Man;") (wi 1 74 rfl rfl)) (fun _ h9 => h9) rfl (show decode prog_4_method_1_code 35 = .ok (.getfield 11, 3) by decide +kernel) ?_
  refine lv_iload_n hx hb (show decode prog_4_method_1_code 38 = .ok (.iload_n 1, 1) by decide +kernel) rfl (lv_at hl 0 rfl) ?_
  refine va_new (ci := 3) (fs := [.int 0, .int 0, .int 0, .int 0, .int 0, .int 0]) (C := RX3) (T := TX3) (N := 6) hx hb hts us_3 tyX3 tyX3_ok hown (hts (.classLink RX2 9 RX3) (wi 1 32 rfl rfl)) (hts (.instantiable RX3 6) (wi 1 34 rfl rfl)) (hts (.initialized RX3) kMn_init.2.1) hK hP hD hS hA rfl (fun j hj => by rcases (show j = 0 ∨ j = 1 ∨ j = 2 ∨ j = 3 ∨ j = 4 ∨ j = 5 by omega) with rfl | rfl | rfl | rfl | rfl | rfl <;> rfl) (Nat.le_of_ble_eq_true rfl) (Nat.le_of_ble_eq_true rfl) (show decode prog_4_method_1_code 39 = .ok (.new 9, 3) by decide +kernel) (fun q6 H hP hD hS => ?_)
  have hP : va_P D cls9 [(h0, .inr (2, [.ref q1, .int 0, .ref q2, .int 0, .int (1)])), (q1, .inl (cy 2, (8, .inr (.inr (.inr (.inr (va_up (va_up (va_up (fun _ => none) 0 (some q3)) 1 (some q4)) 2 (some q5)))))))), (q2, .inl (cy 0, (30, .inl (fun _ => 0)))), (q3, mn1), (q4, mn1), (q5, mn1), (q6, mn0)] H := hP
  have hD : va_D A [(h0, .inr (2, [.ref q1, .int 0, .ref q2, .int 0, .int (1)])), (q1, .inl (cy 2, (8, .inr (.inr (.inr (.inr (va_up (va_up (va_up (fun _ => none) 0 (some q3)) 1 (some q4)) 2 (some q5)))))))), (q2, .inl (cy 0, (30, .inl (fun _ => 0)))), (q3, mn1), (q4, mn1), (q5, mn1), (q6, mn0)] := hD
  refine lv_dup hx hb (show decode prog_4_method_1_code 42 = .ok (.dup, 1) by decide +kernel) rfl ?_
  have hPc := hP.sub (ws' := [(q6, mn0)]) [6] rfl
  have hDc := hD.sub (ws' := [(q6, mn0)]) [6] (by decide) rfl
  have hKc := hK.sub (tys' := []) [] rfl
  have hFc := va_free (wc := [(q6, mn0)]) hD hS hA [6] rfl
  refine va_callv (va_runIN (Ts := GW) (As := []) (rest := [.ref q6, .int 3, .ref q1]) ⟨hx, hb, hml, hown, hts⟩ (i_Mn l D q6 H.size) ⟨va_cnB 0 hts gi_Mn rfl rfl rfl (hnest _ (wn 1 35 rfl rfl)) (hts _ kMn_init.2.1) ⟨kMn_init.2.2.2.2.1, kMn_init.2.2.2.2.2.1, by decide +kernel⟩ ⟨Nat.le_of_ble_eq_true rfl, Nat.le_of_ble_eq_true rfl⟩, rfl, hts (.instanceMethod mMn_init.2.1) (wi 1 36 rfl rfl)⟩ ⟨fun a U g mk q => by obtain ⟨q0, q1, qP, qK, qD⟩ := q; exact ⟨q0, q1, qP, va_K.moved (u := U) (U := U.calling g mk a) (Vm.Alike.refl U.vm) qK, qD⟩, fun U hU hW => ⟨rfl, by rw [hU], by rw [hU]; exact hPc, va_K.moved hW.alike hKc, hDc.weaken (fun _ _ _ _ => trivial)⟩⟩ rfl rfl hl.1 rfl (lv_room (Nat.le_of_ble_eq_true rfl)) (show decode prog_4_method_1_code 43 = .ok (.invokespecial 25, 3) by decide +kernel) ⟨Nat.le_of_ble_eq_true rfl, Nat.le_of_ble_eq_true rfl⟩) hS (fun q _ h => hFc q h) hFc (fun u t H1 locs ht hvm hw hB hz1 hk1 hS => ?_)
  obtain ⟨hP1, hK1, hD1⟩ := hB
  rw [ht] at hP1
  obtain ⟨hP, hD⟩ := va_join (wr := [(h0, .inr (2, [.ref q1, .int 0, .ref q2, .int 0, .int (1)])), (q1, .inl (cy 2, (8, .inr (.inr (.inr (.inr (va_up (va_up (va_up (fun _ => none) 0 (some q3)) 1 (some q4)) 2 (some q5)))))))), (q2, .inl (cy 0, (30, .inl (fun _ => 0)))), (q3, mn1), (q4, mn1), (q5, mn1)]) (w1 := [(q6, mn1)]) hP hD [6] [0, 1, 2, 3, 4, 5] rfl rfl (by decide) (by decide) hk1 hFc hP1 hD1
  clear hk1 hFc hPc hDc hP1 hD1 hz1 ht
  generalize H1 = H at hP hS ⊢
  have hP : va_P D cls9 [(h0, .inr (2, [.ref q1, .int 0, .ref q2, .int 0, .int (1)])), (q1, .inl (cy 2, (8, .inr (.inr (.inr (.inr (va_up (va_up (va_up (fun _ => none) 0 (some q3)) 1 (some q4)) 2 (some q5)))))))), (q2, .inl (cy 0, (30, .inl (fun _ => 0)))), (q3, mn1), (q4, mn1), (q5, mn1), (q6, mn1)] H := hP
  have hD : va_D A [(h0, .inr (2, [.ref q1, .int 0, .ref q2, .int 0, .int (1)])), (q1, .inl (cy 2, (8, .inr (.inr (.inr (.inr (va_up (va_up (va_up (fun _ => none) 0 (some q3)) 1 (some q4)) 2 (some q5)))))))), (q2, .inl (cy 0, (30, .inl (fun _ => 0)))), (q3, mn1), (q4, mn1), (q5, mn1), (q6, mn1)] := hD
  refine va_astq hx hb hK hP hD hS 1 2 6 3 rfl rfl rfl rfl (vpb_ok (by decide)) (show decode prog_4_method_1_code 46 = .ok (.aastore, 1) by decide +kernel) (fun H locs hP hD hS => ?_)
  have hP : va_P D cls9 [(h0, .inr (2, [.ref q1, .int 0, .ref q2, .int 0, .int (1)])), (q1, .inl (cy 2, (8, .inr (.inr (.inr (.inr (va_up (va_up (va_up (va_up (fun _ => none) 0 (some q3)) 1 (some q4)) 2 (some q5)) 3 (some q6)))))))), (q2, .inl (cy 0, (30, .inl (fun _ => 0)))), (q3, mn1), (q4, mn1), (q5, mn1), (q6, mn1)] H := hP
  have hD : va_D A [(h0, .inr (2, [.ref q1, .int 0, .ref q2, .int 0, .int (1)])), (q1, .inl (cy 2, (8, .inr (.inr (.inr (.inr (va_up (va_up (va_up (va_up (fun _ => none) 0 (some q3)) 1 (some q4)) 2 (some q5)) 3 (some q6)))))))), (q2, .inl (cy 0, (30, .inl (fun _ => 0)))), (q3, mn1), (q4, mn1), (q5, mn1), (q6, mn1)] := hD
  refine lv_iinc (v := 4) (lv' := [(1, .int 4), (0, .ref h0)]) hx hb (show decode prog_4_method_1_code 47 = .ok (.iinc 1 1, 3) by decide +kernel) hl (k := 0) rfl (by decide) (by decide) rfl (fun ls hl => ?_)
  refine lv_goto (tgt := 28) hx hb (show decode prog_4_method_1_code 50 = .ok (.goto (-22), 3) by decide +kernel) (by decide) ?_
  refine lv_iload_n hx hb (show decode prog_4_method_1_code 28 = .ok (.iload_n 1, 1) by decide +kernel) rfl (lv_at hl 0 rfl) ?_
  refine lv_bipush (v := 8) hx hb (show decode prog_4_method_1_code 29 = .ok (.bipush 8, 2) by decide +kernel) (by decide) ?_
  refine lv_icmp_ge (tgt := 53) hx hb (show decode prog_4_method_1_code 31 = .ok (.if_icmp .ge 22, 3) by decide +kernel) (by decide) (fun z => absurd z (by decide)) (fun _ => ?_)
  refine lv_aload_n hx hb (show decode prog_4_method_1_code 34 = .ok (.aload_n 0, 1) by decide +kernel) rfl (lv_at hl 1 rfl) ?_
  refine va_get (D := D) (ci := 2) (v := .ref q1) (C := RX2) (T := TX2) (N := 5) hx hb hts us_2 hown hK hP 0 rfl rfl 0 (by decide) (hts (.fieldLink RX2 11 RX2 "men" "[LEveryonesThirdWord$Man;") (wi 1 74 rfl rfl)) (fun _ h9 => h9) rfl (show decode prog_4_method_1_code 35 = .ok (.getfield 11, 3) by decide +kernel) ?_
  refine lv_iload_n hx hb (show decode prog_4_method_1_code 38 = .ok (.iload_n 1, 1) by decide +kernel) rfl (lv_at hl 0 rfl) ?_
  refine va_new (ci := 3) (fs := [.int 0, .int 0, .int 0, .int 0, .int 0, .int 0]) (C := RX3) (T := TX3) (N := 6) hx hb hts us_3 tyX3 tyX3_ok hown (hts (.classLink RX2 9 RX3) (wi 1 32 rfl rfl)) (hts (.instantiable RX3 6) (wi 1 34 rfl rfl)) (hts (.initialized RX3) kMn_init.2.1) hK hP hD hS hA rfl (fun j hj => by rcases (show j = 0 ∨ j = 1 ∨ j = 2 ∨ j = 3 ∨ j = 4 ∨ j = 5 by omega) with rfl | rfl | rfl | rfl | rfl | rfl <;> rfl) (Nat.le_of_ble_eq_true rfl) (Nat.le_of_ble_eq_true rfl) (show decode prog_4_method_1_code 39 = .ok (.new 9, 3) by decide +kernel) (fun q7 H hP hD hS => ?_)
  have hP : va_P D cls9 [(h0, .inr (2, [.ref q1, .int 0, .ref q2, .int 0, .int (1)])), (q1, .inl (cy 2, (8, .inr (.inr (.inr (.inr (va_up (va_up (va_up (va_up (fun _ => none) 0 (some q3)) 1 (some q4)) 2 (some q5)) 3 (some q6)))))))), (q2, .inl (cy 0, (30, .inl (fun _ => 0)))), (q3, mn1), (q4, mn1), (q5, mn1), (q6, mn1), (q7, mn0)] H := hP
  have hD : va_D A [(h0, .inr (2, [.ref q1, .int 0, .ref q2, .int 0, .int (1)])), (q1, .inl (cy 2, (8, .inr (.inr (.inr (.inr (va_up (va_up (va_up (va_up (fun _ => none) 0 (some q3)) 1 (some q4)) 2 (some q5)) 3 (some q6)))))))), (q2, .inl (cy 0, (30, .inl (fun _ => 0)))), (q3, mn1), (q4, mn1), (q5, mn1), (q6, mn1), (q7, mn0)] := hD
  refine lv_dup hx hb (show decode prog_4_method_1_code 42 = .ok (.dup, 1) by decide +kernel) rfl ?_
  have hPc := hP.sub (ws' := [(q7, mn0)]) [7] rfl
  have hDc := hD.sub (ws' := [(q7, mn0)]) [7] (by decide) rfl
  have hKc := hK.sub (tys' := []) [] rfl
  have hFc := va_free (wc := [(q7, mn0)]) hD hS hA [7] rfl
  refine va_callv (va_runIN (Ts := GW) (As := []) (rest := [.ref q7, .int 4, .ref q1]) ⟨hx, hb, hml, hown, hts⟩ (i_Mn l D q7 H.size) ⟨va_cnB 0 hts gi_Mn rfl rfl rfl (hnest _ (wn 1 35 rfl rfl)) (hts _ kMn_init.2.1) ⟨kMn_init.2.2.2.2.1, kMn_init.2.2.2.2.2.1, by decide +kernel⟩ ⟨Nat.le_of_ble_eq_true rfl, Nat.le_of_ble_eq_true rfl⟩, rfl, hts (.instanceMethod mMn_init.2.1) (wi 1 36 rfl rfl)⟩ ⟨fun a U g mk q => by obtain ⟨q0, q1, qP, qK, qD⟩ := q; exact ⟨q0, q1, qP, va_K.moved (u := U) (U := U.calling g mk a) (Vm.Alike.refl U.vm) qK, qD⟩, fun U hU hW => ⟨rfl, by rw [hU], by rw [hU]; exact hPc, va_K.moved hW.alike hKc, hDc.weaken (fun _ _ _ _ => trivial)⟩⟩ rfl rfl hl.1 rfl (lv_room (Nat.le_of_ble_eq_true rfl)) (show decode prog_4_method_1_code 43 = .ok (.invokespecial 25, 3) by decide +kernel) ⟨Nat.le_of_ble_eq_true rfl, Nat.le_of_ble_eq_true rfl⟩) hS (fun q _ h => hFc q h) hFc (fun u t H1 locs ht hvm hw hB hz1 hk1 hS => ?_)
  obtain ⟨hP1, hK1, hD1⟩ := hB
  rw [ht] at hP1
  obtain ⟨hP, hD⟩ := va_join (wr := [(h0, .inr (2, [.ref q1, .int 0, .ref q2, .int 0, .int (1)])), (q1, .inl (cy 2, (8, .inr (.inr (.inr (.inr (va_up (va_up (va_up (va_up (fun _ => none) 0 (some q3)) 1 (some q4)) 2 (some q5)) 3 (some q6)))))))), (q2, .inl (cy 0, (30, .inl (fun _ => 0)))), (q3, mn1), (q4, mn1), (q5, mn1), (q6, mn1)]) (w1 := [(q7, mn1)]) hP hD [7] [0, 1, 2, 3, 4, 5, 6] rfl rfl (by decide) (by decide) hk1 hFc hP1 hD1
  clear hk1 hFc hPc hDc hP1 hD1 hz1 ht
  generalize H1 = H at hP hS ⊢
  have hP : va_P D cls9 [(h0, .inr (2, [.ref q1, .int 0, .ref q2, .int 0, .int (1)])), (q1, .inl (cy 2, (8, .inr (.inr (.inr (.inr (va_up (va_up (va_up (va_up (fun _ => none) 0 (some q3)) 1 (some q4)) 2 (some q5)) 3 (some q6)))))))), (q2, .inl (cy 0, (30, .inl (fun _ => 0)))), (q3, mn1), (q4, mn1), (q5, mn1), (q6, mn1), (q7, mn1)] H := hP
  have hD : va_D A [(h0, .inr (2, [.ref q1, .int 0, .ref q2, .int 0, .int (1)])), (q1, .inl (cy 2, (8, .inr (.inr (.inr (.inr (va_up (va_up (va_up (va_up (fun _ => none) 0 (some q3)) 1 (some q4)) 2 (some q5)) 3 (some q6)))))))), (q2, .inl (cy 0, (30, .inl (fun _ => 0)))), (q3, mn1), (q4, mn1), (q5, mn1), (q6, mn1), (q7, mn1)] := hD
  refine va_astq hx hb hK hP hD hS 1 2 7 3 rfl rfl rfl rfl (vpb_ok (by decide)) (show decode prog_4_method_1_code 46 = .ok (.aastore, 1) by decide +kernel) (fun H locs hP hD hS => ?_)
  have hP : va_P D cls9 [(h0, .inr (2, [.ref q1, .int 0, .ref q2, .int 0, .int (1)])), (q1, .inl (cy 2, (8, .inr (.inr (.inr (.inr (va_up (va_up (va_up (va_up (va_up (fun _ => none) 0 (some q3)) 1 (some q4)) 2 (some q5)) 3 (some q6)) 4 (some q7)))))))), (q2, .inl (cy 0, (30, .inl (fun _ => 0)))), (q3, mn1), (q4, mn1), (q5, mn1), (q6, mn1), (q7, mn1)] H := hP
  have hD : va_D A [(h0, .inr (2, [.ref q1, .int 0, .ref q2, .int 0, .int (1)])), (q1, .inl (cy 2, (8, .inr (.inr (.inr (.inr (va_up (va_up (va_up (va_up (va_up (fun _ => none) 0 (some q3)) 1 (some q4)) 2 (some q5)) 3 (some q6)) 4 (some q7)))))))), (q2, .inl (cy 0, (30, .inl (fun _ => 0)))), (q3, mn1), (q4, mn1), (q5, mn1), (q6, mn1), (q7, mn1)] := hD
  refine lv_iinc (v := 5) (lv' := [(1, .int 5), (0, .ref h0)]) hx hb (show decode prog_4_method_1_code 47 = .ok (.iinc 1 1, 3) by decide +kernel) hl (k := 0) rfl (by decide) (by decide) rfl (fun ls hl => ?_)
  refine lv_goto (tgt := 28) hx hb (show decode prog_4_method_1_code 50 = .ok (.goto (-22), 3) by decide +kernel) (by decide) ?_
  refine lv_iload_n hx hb (show decode prog_4_method_1_code 28 = .ok (.iload_n 1, 1) by decide +kernel) rfl (lv_at hl 0 rfl) ?_
  refine lv_bipush (v := 8) hx hb (show decode prog_4_method_1_code 29 = .ok (.bipush 8, 2) by decide +kernel) (by decide) ?_
  refine lv_icmp_ge (tgt := 53) hx hb (show decode prog_4_method_1_code 31 = .ok (.if_icmp .ge 22, 3) by decide +kernel) (by decide) (fun z => absurd z (by decide)) (fun _ => ?_)
  refine lv_aload_n hx hb (show decode prog_4_method_1_code 34 = .ok (.aload_n 0, 1) by decide +kernel) rfl (lv_at hl 1 rfl) ?_
  refine va_get (D := D) (ci := 2) (v := .ref q1) (C := RX2) (T := TX2) (N := 5) hx hb hts us_2 hown hK hP 0 rfl rfl 0 (by decide) (hts (.fieldLink RX2 11 RX2 "men" "[LEveryonesThirdWord$Man;") (wi 1 74 rfl rfl)) (fun _ h9 => h9) rfl (show decode prog_4_method_1_code 35 = .ok (.getfield 11, 3) by decide +kernel) ?_
  refine lv_iload_n hx hb (show decode prog_4_method_1_code 38 = .ok (.iload_n 1, 1) by decide +kernel) rfl (lv_at hl 0 rfl) ?_
  refine va_new (ci := 3) (fs := [.int 0, .int 0, .int 0, .int 0, .int 0, .int 0]) (C := RX3) (T := TX3) (N := 6) hx hb hts us_3 tyX3 tyX3_ok hown (hts (.classLink RX2 9 RX3) (wi 1 32 rfl rfl)) (hts (.instantiable RX3 6) (wi 1 34 rfl rfl)) (hts (.initialized RX3) kMn_init.2.1) hK hP hD hS hA rfl (fun j hj => by rcases (show j = 0 ∨ j = 1 ∨ j = 2 ∨ j = 3 ∨ j = 4 ∨ j = 5 by omega) with rfl | rfl | rfl | rfl | rfl | rfl <;> rfl) (Nat.le_of_ble_eq_true rfl) (Nat.le_of_ble_eq_true rfl) (show decode prog_4_method_1_code 39 = .ok (.new 9, 3) by decide +kernel) (fun q8 H hP hD hS => ?_)
  have hP : va_P D cls9 [(h0, .inr (2, [.ref q1, .int 0, .ref q2, .int 0, .int (1)])), (q1, .inl (cy 2, (8, .inr (.inr (.inr (.inr (va_up (va_up (va_up (va_up (va_up (fun _ => none) 0 (some q3)) 1 (some q4)) 2 (some q5)) 3 (some q6)) 4 (some q7)))))))), (q2, .inl (cy 0, (30, .inl (fun _ => 0)))), (q3, mn1), (q4, mn1), (q5, mn1), (q6, mn1), (q7, mn1), (q8, mn0)] H := hP
  have hD : va_D A [(h0, .inr (2, [.ref q1, .int 0, .ref q2, .int 0, .int (1)])), (q1, .inl (cy 2, (8, .inr (.inr (.inr (.inr (va_up (va_up (va_up (va_up (va_up (fun _ => none) 0 (some q3)) 1 (some q4)) 2 (some q5)) 3 (some q6)) 4 (some q7)))))))), (q2, .inl (cy 0, (30, .inl (fun _ => 0)))), (q3, mn1), (q4, mn1), (q5, mn1), (q6, mn1), (q7, mn1), (q8, mn0)] := hD
  refine lv_dup hx hb (show decode prog_4_method_1_code 42 = .ok (.dup, 1) by decide +kernel) rfl ?_
  have hPc := hP.sub (ws' := [(q8, mn0)]) [8] rfl
  have hDc := hD.sub (ws' := [(q8, mn0)]) [8] (by decide) rfl
  have hKc := hK.sub (tys' := []) [] rfl
  have hFc := va_free (wc := [(q8, mn0)]) hD hS hA [8] rfl
  refine va_callv (va_runIN (Ts := GW) (As := []) (rest := [.ref q8, .int 5, .ref q1]) ⟨hx, hb, hml, hown, hts⟩ (i_Mn l D q8 H.size) ⟨va_cnB 0 hts gi_Mn rfl rfl rfl (hnest _ (wn 1 35 rfl rfl)) (hts _ kMn_init.2.1) ⟨kMn_init.2.2.2.2.1, kMn_init.2.2.2.2.2.1, by decide +kernel⟩ ⟨Nat.le_of_ble_eq_true rfl, Nat.le_of_ble_eq_true rfl⟩, rfl, hts (.instanceMethod mMn_init.2.1) (wi 1 36 rfl rfl)⟩ ⟨fun a U g mk q => by obtain ⟨q0, q1, qP, qK, qD⟩ := q; exact ⟨q0, q1, qP, va_K.moved (u := U) (U := U.calling g mk a) (Vm.Alike.refl U.vm) qK, qD⟩, fun U hU hW => ⟨rfl, by rw [hU], by rw [hU]; exact hPc, va_K.moved hW.alike hKc, hDc.weaken (fun _ _ _ _ => trivial)⟩⟩ rfl rfl hl.1 rfl (lv_room (Nat.le_of_ble_eq_true rfl)) (show decode prog_4_method_1_code 43 = .ok (.invokespecial 25, 3) by decide +kernel) ⟨Nat.le_of_ble_eq_true rfl, Nat.le_of_ble_eq_true rfl⟩) hS (fun q _ h => hFc q h) hFc (fun u t H1 locs ht hvm hw hB hz1 hk1 hS => ?_)
  obtain ⟨hP1, hK1, hD1⟩ := hB
  rw [ht] at hP1
  obtain ⟨hP, hD⟩ := va_join (wr := [(h0, .inr (2, [.ref q1, .int 0, .ref q2, .int 0, .int (1)])), (q1, .inl (cy 2, (8, .inr (.inr (.inr (.inr (va_up (va_up (va_up (va_up (va_up (fun _ => none) 0 (some q3)) 1 (some q4)) 2 (some q5)) 3 (some q6)) 4 (some q7)))))))), (q2, .inl (cy 0, (30, .inl (fun _ => 0)))), (q3, mn1), (q4, mn1), (q5, mn1), (q6, mn1), (q7, mn1)]) (w1 := [(q8, mn1)]) hP hD [8] [0, 1, 2, 3, 4, 5, 6, 7] rfl rfl (by decide) (by decide) hk1 hFc hP1 hD1
  clear hk1 hFc hPc hDc hP1 hD1 hz1 ht
  generalize H1 = H at hP hS ⊢
  have hP : va_P D cls9 [(h0, .inr (2, [.ref q1, .int 0, .ref q2, .int 0, .int (1)])), (q1, .inl (cy 2, (8, .inr (.inr (.inr (.inr (va_up (va_up (va_up (va_up (va_up (fun _ => none) 0 (some q3)) 1 (some q4)) 2 (some q5)) 3 (some q6)) 4 (some q7)))))))), (q2, .inl (cy 0, (30, .inl (fun _ => 0)))), (q3, mn1), (q4, mn1), (q5, mn1), (q6, mn1), (q7, mn1), (q8, mn1)] H := hP
  have hD : va_D A [(h0, .inr (2, [.ref q1, .int 0, .ref q2, .int 0, .int (1)])), (q1, .inl (cy 2, (8, .inr (.inr (.inr (.inr (va_up (va_up (va_up (va_up (va_up (fun _ => none) 0 (some q3)) 1 (some q4)) 2 (some q5)) 3 (some q6)) 4 (some q7)))))))), (q2, .inl (cy 0, (30, .inl (fun _ => 0)))), (q3, mn1), (q4, mn1), (q5, mn1), (q6, mn1), (q7, mn1), (q8, mn1)] := hD
  refine va_astq hx hb hK hP hD hS 1 2 8 3 rfl rfl rfl rfl (vpb_ok (by decide)) (show decode prog_4_method_1_code 46 = .ok (.aastore, 1) by decide +kernel) (fun H locs hP hD hS => ?_)
  have hP : va_P D cls9 [(h0, .inr (2, [.ref q1, .int 0, .ref q2, .int 0, .int (1)])), (q1, .inl (cy 2, (8, .inr (.inr (.inr (.inr (va_up (va_up (va_up (va_up (va_up (va_up (fun _ => none) 0 (some q3)) 1 (some q4)) 2 (some q5)) 3 (some q6)) 4 (some q7)) 5 (some q8)))))))), (q2, .inl (cy 0, (30, .inl (fun _ => 0)))), (q3, mn1), (q4, mn1), (q5, mn1), (q6, mn1), (q7, mn1), (q8, mn1)] H := hP
  have hD : va_D A [(h0, .inr (2, [.ref q1, .int 0, .ref q2, .int 0, .int (1)])), (q1, .inl (cy 2, (8, .inr (.inr (.inr (.inr (va_up (va_up (va_up (va_up (va_up (va_up (fun _ => none) 0 (some q3)) 1 (some q4)) 2 (some q5)) 3 (some q6)) 4 (some q7)) 5 (some q8)))))))), (q2, .inl (cy 0, (30, .inl (fun _ => 0)))), (q3, mn1), (q4, mn1), (q5, mn1), (q6, mn1), (q7, mn1), (q8, mn1)] := hD
  refine lv_iinc (v := 6) (lv' := [(1, .int 6), (0, .ref h0)]) hx hb (show decode prog_4_method_1_code 47 = .ok (.iinc 1 1, 3) by decide +kernel) hl (k := 0) rfl (by decide) (by decide) rfl (fun ls hl => ?_)
  refine lv_goto (tgt := 28) hx hb (show decode prog_4_method_1_code 50 = .ok (.goto (-22), 3) by decide +kernel) (by decide) ?_
  refine lv_iload_n hx hb (show decode prog_4_method_1_code 28 = .ok (.iload_n 1, 1) by decide +kernel) rfl (lv_at hl 0 rfl) ?_
  refine lv_bipush (v := 8) hx hb (show decode prog_4_method_1_code 29 = .ok (.bipush 8, 2) by decide +kernel) (by decide) ?_
  refine lv_icmp_ge (tgt := 53) hx hb (show decode prog_4_method_1_code 31 = .ok (.if_icmp .ge 22, 3) by decide +kernel) (by decide) (fun z => absurd z (by decide)) (fun _ => ?_)
  refine lv_aload_n hx hb (show decode prog_4_method_1_code 34 = .ok (.aload_n 0, 1) by decide +kernel) rfl (lv_at hl 1 rfl) ?_
  refine va_get (D := D) (ci := 2) (v := .ref q1) (C := RX2) (T := TX2) (N := 5) hx hb hts us_2 hown hK hP 0 rfl rfl 0 (by decide) (hts (.fieldLink RX2 11 RX2 "men" "[LEveryonesThirdWord$Man;") (wi 1 74 rfl rfl)) (fun _ h9 => h9) rfl (show decode prog_4_method_1_code 35 = .ok (.getfield 11, 3) by decide +kernel) ?_
  refine lv_iload_n hx hb (show decode prog_4_method_1_code 38 = .ok (.iload_n 1, 1) by decide +kernel) rfl (lv_at hl 0 rfl) ?_
  refine va_new (ci := 3) (fs := [.int 0, .int 0, .int 0, .int 0, .int 0, .int 0]) (C := RX3) (T := TX3) (N := 6) hx hb hts us_3 tyX3 tyX3_ok hown (hts (.classLink RX2 9 RX3) (wi 1 32 rfl rfl)) (hts (.instantiable RX3 6) (wi 1 34 rfl rfl)) (hts (.initialized RX3) kMn_init.2.1) hK hP hD hS hA rfl (fun j hj => by rcases (show j = 0 ∨ j = 1 ∨ j = 2 ∨ j = 3 ∨ j = 4 ∨ j = 5 by omega) with rfl | rfl | rfl | rfl | rfl | rfl <;> rfl) (Nat.le_of_ble_eq_true rfl) (Nat.le_of_ble_eq_true rfl) (show decode prog_4_method_1_code 39 = .ok (.new 9, 3) by decide +kernel) (fun q9 H hP hD hS => ?_)
  have hP : va_P D cls9 [(h0, .inr (2, [.ref q1, .int 0, .ref q2, .int 0, .int (1)])), (q1, .inl (cy 2, (8, .inr (.inr (.inr (.inr (va_up (va_up (va_up (va_up (va_up (va_up (fun _ => none) 0 (some q3)) 1 (some q4)) 2 (some q5)) 3 (some q6)) 4 (some q7)) 5 (some q8)))))))), (q2, .inl (cy 0, (30, .inl (fun _ => 0)))), (q3, mn1), (q4, mn1), (q5, mn1), (q6, mn1), (q7, mn1), (q8, mn1), (q9, mn0)] H := hP
  have hD : va_D A [(h0, .inr (2, [.ref q1, .int 0, .ref q2, .int 0, .int (1)])), (q1, .inl (cy 2, (8, .inr (.inr (.inr (.inr (va_up (va_up (va_up (va_up (va_up (va_up (fun _ => none) 0 (some q3)) 1 (some q4)) 2 (some q5)) 3 (some q6)) 4 (some q7)) 5 (some q8)))))))), (q2, .inl (cy 0, (30, .inl (fun _ => 0)))), (q3, mn1), (q4, mn1), (q5, mn1), (q6, mn1), (q7, mn1), (q8, mn1), (q9, mn0)] := hD
  refine lv_dup hx hb (show decode prog_4_method_1_code 42 = .ok (.dup, 1) by decide +kernel) rfl ?_
  have hPc := hP.sub (ws' := [(q9, mn0)]) [9] rfl
  have hDc := hD.sub (ws' := [(q9, mn0)]) [9] (by decide) rfl
  have hKc := hK.sub (tys' := []) [] rfl
  have hFc := va_free (wc := [(q9, mn0)]) hD hS hA [9] rfl
  refine va_callv (va_runIN (Ts := GW) (As := []) (rest := [.ref q9, .int 6, .ref q1]) ⟨hx, hb, hml, hown, hts⟩ (i_Mn l D q9 H.size) ⟨va_cnB 0 hts gi_Mn rfl rfl rfl (hnest _ (wn 1 35 rfl rfl)) (hts _ kMn_init.2.1) ⟨kMn_init.2.2.2.2.1, kMn_init.2.2.2.2.2.1, by decide +kernel⟩ ⟨Nat.le_of_ble_eq_true rfl, Nat.le_of_ble_eq_true rfl⟩, rfl, hts (.instanceMethod mMn_init.2.1) (wi 1 36 rfl rfl)⟩ ⟨fun a U g mk q => by obtain ⟨q0, q1, qP, qK, qD⟩ := q; exact ⟨q0, q1, qP, va_K.moved (u := U) (U := U.calling g mk a) (Vm.Alike.refl U.vm) qK, qD⟩, fun U hU hW => ⟨rfl, by rw [hU], by rw [hU]; exact hPc, va_K.moved hW.alike hKc, hDc.weaken (fun _ _ _ _ => trivial)⟩⟩ rfl rfl hl.1 rfl (lv_room (Nat.le_of_ble_eq_true rfl)) (show decode prog_4_method_1_code 43 = .ok (.invokespecial 25, 3) by decide +kernel) ⟨Nat.le_of_ble_eq_true rfl, Nat.le_of_ble_eq_true rfl⟩) hS (fun q _ h => hFc q h) hFc (fun u t H1 locs ht hvm hw hB hz1 hk1 hS => ?_)
  obtain ⟨hP1, hK1, hD1⟩ := hB
  rw [ht] at hP1
  obtain ⟨hP, hD⟩ := va_join (wr := [(h0, .inr (2, [.ref q1, .int 0, .ref q2, .int 0, .int (1)])), (q1, .inl (cy 2, (8, .inr (.inr (.inr (.inr (va_up (va_up (va_up (va_up (va_up (va_up (fun _ => none) 0 (some q3)) 1 (some q4)) 2 (some q5)) 3 (some q6)) 4 (some q7)) 5 (some q8)))))))), (q2, .inl (cy 0, (30, .inl (fun _ => 0)))), (q3, mn1), (q4, mn1), (q5, mn1), (q6, mn1), (q7, mn1), (q8, mn1)]) (w1 := [(q9, mn1)]) hP hD [9] [0, 1, 2, 3, 4, 5, 6, 7, 8] rfl rfl (by decide) (by decide) hk1 hFc hP1 hD1
  clear hk1 hFc hPc hDc hP1 hD1 hz1 ht
  generalize H1 = H at hP hS ⊢
  have hP : va_P D cls9 [(h0, .inr (2, [.ref q1, .int 0, .ref q2, .int 0, .int (1)])), (q1, .inl (cy 2, (8, .inr (.inr (.inr (.inr (va_up (va_up (va_up (va_up (va_up (va_up (fun _ => none) 0 (some q3)) 1 (some q4)) 2 (some q5)) 3 (some q6)) 4 (some q7)) 5 (some q8)))))))), (q2, .inl (cy 0, (30, .inl (fun _ => 0)))), (q3, mn1), (q4, mn1), (q5, mn1), (q6, mn1), (q7, mn1), (q8, mn1), (q9, mn1)] H := hP
  have hD : va_D A [(h0, .inr (2, [.ref q1, .int 0, .ref q2, .int 0, .int (1)])), (q1, .inl (cy 2, (8, .inr (.inr (.inr (.inr (va_up (va_up (va_up (va_up (va_up (va_up (fun _ => none) 0 (some q3)) 1 (some q4)) 2 (some q5)) 3 (some q6)) 4 (some q7)) 5 (some q8)))))))), (q2, .inl (cy 0, (30, .inl (fun _ => 0)))), (q3, mn1), (q4, mn1), (q5, mn1), (q6, mn1), (q7, mn1), (q8, mn1), (q9, mn1)] := hD
  refine va_astq hx hb hK hP hD hS 1 2 9 3 rfl rfl rfl rfl (vpb_ok (by decide)) (show decode prog_4_method_1_code 46 = .ok (.aastore, 1) by decide +kernel) (fun H locs hP hD hS => ?_)
  have hP : va_P D cls9 [(h0, .inr (2, [.ref q1, .int 0, .ref q2, .int 0, .int (1)])), (q1, .inl (cy 2, (8, .inr (.inr (.inr (.inr (va_up (va_up (va_up (va_up (va_up (va_up (va_up (fun _ => none) 0 (some q3)) 1 (some q4)) 2 (some q5)) 3 (some q6)) 4 (some q7)) 5 (some q8)) 6 (some q9)))))))), (q2, .inl (cy 0, (30, .inl (fun _ => 0)))), (q3, mn1), (q4, mn1), (q5, mn1), (q6, mn1), (q7, mn1), (q8, mn1), (q9, mn1)] H := hP
  have hD : va_D A [(h0, .inr (2, [.ref q1, .int 0, .ref q2, .int 0, .int (1)])), (q1, .inl (cy 2, (8, .inr (.inr (.inr (.inr (va_up (va_up (va_up (va_up (va_up (va_up (va_up (fun _ => none) 0 (some q3)) 1 (some q4)) 2 (some q5)) 3 (some q6)) 4 (some q7)) 5 (some q8)) 6 (some q9)))))))), (q2, .inl (cy 0, (30, .inl (fun _ => 0)))), (q3, mn1), (q4, mn1), (q5, mn1), (q6, mn1), (q7, mn1), (q8, mn1), (q9, mn1)] := hD
  refine lv_iinc (v := 7) (lv' := [(1, .int 7), (0, .ref h0)]) hx hb (show decode prog_4_method_1_code 47 = .ok (.iinc 1 1, 3) by decide +kernel) hl (k := 0) rfl (by decide) (by decide) rfl (fun ls hl => ?_)
  refine lv_goto (tgt := 28) hx hb (show decode prog_4_method_1_code 50 = .ok (.goto (-22), 3) by decide +kernel) (by decide) ?_
  refine lv_iload_n hx hb (show decode prog_4_method_1_code 28 = .ok (.iload_n 1, 1) by decide +kernel) rfl (lv_at hl 0 rfl) ?_
  refine lv_bipush (v := 8) hx hb (show decode prog_4_method_1_code 29 = .ok (.bipush 8, 2) by decide +kernel) (by decide) ?_
  refine lv_icmp_ge (tgt := 53) hx hb (show decode prog_4_method_1_code 31 = .ok (.if_icmp .ge 22, 3) by decide +kernel) (by decide) (fun z => absurd z (by decide)) (fun _ => ?_)
  refine lv_aload_n hx hb (show decode prog_4_method_1_code 34 = .ok (.aload_n 0, 1) by decide +kernel) rfl (lv_at hl 1 rfl) ?_
  refine va_get (D := D) (ci := 2) (v := .ref q1) (C := RX2) (T := TX2) (N := 5) hx hb hts us_2 hown hK hP 0 rfl rfl 0 (by decide) (hts (.fieldLink RX2 11 RX2 "men" "[LEveryonesThirdWord$Man;") (wi 1 74 rfl rfl)) (fun _ h9 => h9) rfl (show decode prog_4_method_1_code 35 = .ok (.getfield 11, 3) by decide +kernel) ?_
  refine lv_iload_n hx hb (show decode prog_4_method_1_code 38 = .ok (.iload_n 1, 1) by decide +kernel) rfl (lv_at hl 0 rfl) ?_
  refine va_new (ci := 3) (fs := [.int 0, .int 0, .int 0, .int 0, .int 0, .int 0]) (C := RX3) (T := TX3) (N := 6) hx hb hts us_3 tyX3 tyX3_ok hown (hts (.classLink RX2 9 RX3) (wi 1 32 rfl rfl)) (hts (.instantiable RX3 6) (wi 1 34 rfl rfl)) (hts (.initialized RX3) kMn_init.2.1) hK hP hD hS hA rfl (fun j hj => by rcases (show j = 0 ∨ j = 1 ∨ j = 2 ∨ j = 3 ∨ j = 4 ∨ j = 5 by omega) with rfl | rfl | rfl | rfl | rfl | rfl <;> rfl) (Nat.le_of_ble_eq_true rfl) (Nat.le_of_ble_eq_true rfl) (show decode prog_4_method_1_code 39 = .ok (.new 9, 3) by decide +kernel) (fun q10 H hP hD hS => ?_)
  have hP : va_P D cls9 [(h0, .inr (2, [.ref q1, .int 0, .ref q2, .int 0, .int (1)])), (q1, .inl (cy 2, (8, .inr (.inr (.inr (.inr (va_up (va_up (va_up (va_up (va_up (va_up (va_up (fun _ => none) 0 (some q3)) 1 (some q4)) 2 (some q5)) 3 (some q6)) 4 (some q7)) 5 (some q8)) 6 (some q9)))))))), (q2, .inl (cy 0, (30, .inl (fun _ => 0)))), (q3, mn1), (q4, mn1), (q5, mn1), (q6, mn1), (q7, mn1), (q8, mn1), (q9, mn1), (q10, mn0)] H := hP
  have hD : va_D A [(h0, .inr (2, [.ref q1, .int 0, .ref q2, .int 0, .int (1)])), (q1, .inl (cy 2, (8, .inr (.inr (.inr (.inr (va_up (va_up (va_up (va_up (va_up (va_up (va_up (fun _ => none) 0 (some q3)) 1 (some q4)) 2 (some q5)) 3 (some q6)) 4 (some q7)) 5 (some q8)) 6 (some q9)))))))), (q2, .inl (cy 0, (30, .inl (fun _ => 0)))), (q3, mn1), (q4, mn1), (q5, mn1), (q6, mn1), (q7, mn1), (q8, mn1), (q9, mn1), (q10, mn0)] := hD
  refine lv_dup hx hb (show decode prog_4_method_1_code 42 = .ok (.dup, 1) by decide +kernel) rfl ?_
  have hPc := hP.sub (ws' := [(q10, mn0)]) [10] rfl
  have hDc := hD.sub (ws' := [(q10, mn0)]) [10] (by decide) rfl
  have hKc := hK.sub (tys' := []) [] rfl
  have hFc := va_free (wc := [(q10, mn0)]) hD hS hA [10] rfl
  refine va_callv (va_runIN (Ts := GW) (As := []) (rest := [.ref q10, .int 7, .ref q1]) ⟨hx, hb, hml, hown, hts⟩ (i_Mn l D q10 H.size) ⟨va_cnB 0 hts gi_Mn rfl rfl rfl (hnest _ (wn 1 35 rfl rfl)) (hts _ kMn_init.2.1) ⟨kMn_init.2.2.2.2.1, kMn_init.2.2.2.2.2.1, by decide +kernel⟩ ⟨Nat.le_of_ble_eq_true rfl, Nat.le_of_ble_eq_true rfl⟩, rfl, hts (.instanceMethod mMn_init.2.1) (wi 1 36 rfl rfl)⟩ ⟨fun a U g mk q => by obtain ⟨q0, q1, qP, qK, qD⟩ := q; exact ⟨q0, q1, qP, va_K.moved (u := U) (U := U.calling g mk a) (Vm.Alike.refl U.vm) qK, qD⟩, fun U hU hW => ⟨rfl, by rw [hU], by rw [hU]; exact hPc, va_K.moved hW.alike hKc, hDc.weaken (fun _ _ _ _ => trivial)⟩⟩ rfl rfl hl.1 rfl (lv_room (Nat.le_of_ble_eq_true rfl)) (show decode prog_4_method_1_code 43 = .ok (.invokespecial 25, 3) by decide +kernel) ⟨Nat.le_of_ble_eq_true rfl, Nat.le_of_ble_eq_true rfl⟩) hS (fun q _ h => hFc q h) hFc (fun u t H1 locs ht hvm hw hB hz1 hk1 hS => ?_)
  obtain ⟨hP1, hK1, hD1⟩ := hB
  rw [ht] at hP1
  obtain ⟨hP, hD⟩ := va_join (wr := [(h0, .inr (2, [.ref q1, .int 0, .ref q2, .int 0, .int (1)])), (q1, .inl (cy 2, (8, .inr (.inr (.inr (.inr (va_up (va_up (va_up (va_up (va_up (va_up (va_up (fun _ => none) 0 (some q3)) 1 (some q4)) 2 (some q5)) 3 (some q6)) 4 (some q7)) 5 (some q8)) 6 (some q9)))))))), (q2, .inl (cy 0, (30, .inl (fun _ => 0)))), (q3, mn1), (q4, mn1), (q5, mn1), (q6, mn1), (q7, mn1), (q8, mn1), (q9, mn1)]) (w1 := [(q10, mn1)]) hP hD [10] [0, 1, 2, 3, 4, 5, 6, 7, 8, 9] rfl rfl (by decide) (by decide) hk1 hFc hP1 hD1
  clear hk1 hFc hPc hDc hP1 hD1 hz1 ht
  generalize H1 = H at hP hS ⊢
  have hP : va_P D cls9 [(h0, .inr (2, [.ref q1, .int 0, .ref q2, .int 0, .int (1)])), (q1, .inl (cy 2, (8, .inr (.inr (.inr (.inr (va_up (va_up (va_up (va_up (va_up (va_up (va_up (fun _ => none) 0 (some q3)) 1 (some q4)) 2 (some q5)) 3 (some q6)) 4 (some q7)) 5 (some q8)) 6 (some q9)))))))), (q2, .inl (cy 0, (30, .inl (fun _ => 0)))), (q3, mn1), (q4, mn1), (q5, mn1), (q6, mn1), (q7, mn1), (q8, mn1), (q9, mn1), (q10, mn1)] H := hP
  have hD : va_D A [(h0, .inr (2, [.ref q1, .int 0, .ref q2, .int 0, .int (1)])), (q1, .inl (cy 2, (8, .inr (.inr (.inr (.inr (va_up (va_up (va_up (va_up (va_up (va_up (va_up (fun _ => none) 0 (some q3)) 1 (some q4)) 2 (some q5)) 3 (some q6)) 4 (some q7)) 5 (some q8)) 6 (some q9)))))))), (q2, .inl (cy 0, (30, .inl (fun _ => 0)))), (q3, mn1), (q4, mn1), (q5, mn1), (q6, mn1), (q7, mn1), (q8, mn1), (q9, mn1), (q10, mn1)] := hD
  refine va_astq hx hb hK hP hD hS 1 2 10 3 rfl rfl rfl rfl (vpb_ok (by decide)) (show decode prog_4_method_1_code 46 = .ok (.aastore, 1) by decide +kernel) (fun H locs hP hD hS => ?_)
  have hP : va_P D cls9 [(h0, .inr (2, [.ref q1, .int 0, .ref q2, .int 0, .int (1)])), (q1, .inl (cy 2, (8, .inr (.inr (.inr (.inr (va_up (va_up (va_up (va_up (va_up (va_up (va_up (va_up (fun _ => none) 0 (some q3)) 1 (some q4)) 2 (some q5)) 3 (some q6)) 4 (some q7)) 5 (some q8)) 6 (some q9)) 7 (some q10)))))))), (q2, .inl (cy 0, (30, .inl (fun _ => 0)))), (q3, mn1), (q4, mn1), (q5, mn1), (q6, mn1), (q7, mn1), (q8, mn1), (q9, mn1), (q10, mn1)] H := hP
  have hD : va_D A [(h0, .inr (2, [.ref q1, .int 0, .ref q2, .int 0, .int (1)])), (q1, .inl (cy 2, (8, .inr (.inr (.inr (.inr (va_up (va_up (va_up (va_up (va_up (va_up (va_up (va_up (fun _ => none) 0 (some q3)) 1 (some q4)) 2 (some q5)) 3 (some q6)) 4 (some q7)) 5 (some q8)) 6 (some q9)) 7 (some q10)))))))), (q2, .inl (cy 0, (30, .inl (fun _ => 0)))), (q3, mn1), (q4, mn1), (q5, mn1), (q6, mn1), (q7, mn1), (q8, mn1), (q9, mn1), (q10, mn1)] := hD
  refine lv_iinc (v := 8) (lv' := [(1, .int 8), (0, .ref h0)]) hx hb (show decode prog_4_method_1_code 47 = .ok (.iinc 1 1, 3) by decide +kernel) hl (k := 0) rfl (by decide) (by decide) rfl (fun ls hl => ?_)
  refine lv_goto (tgt := 28) hx hb (show decode prog_4_method_1_code 50 = .ok (.goto (-22), 3) by decide +kernel) (by decide) ?_
  refine lv_iload_n hx hb (show decode prog_4_method_1_code 28 = .ok (.iload_n 1, 1) by decide +kernel) rfl (lv_at hl 0 rfl) ?_
  refine lv_bipush (v := 8) hx hb (show decode prog_4_method_1_code 29 = .ok (.bipush 8, 2) by decide +kernel) (by decide) ?_
  refine lv_icmp_ge (tgt := 53) hx hb (show decode prog_4_method_1_code 31 = .ok (.if_icmp .ge 22, 3) by decide +kernel) (by decide) (fun _ => ?_) (fun z => absurd (by decide) z)
  have hP9 := hP.sub (ws' := [(h0, .inr (2, [.ref q1, .int 0, .ref q2, .int 0, .int (1)])), (q1, .inl (cy 2, (8, .inr (.inr (.inr (.inr (va_up (va_up (va_up (va_up (va_up (va_up (va_up (va_up (fun _ => none) 0 (some q3)) 1 (some q4)) 2 (some q5)) 3 (some q6)) 4 (some q7)) 5 (some q8)) 6 (some q9)) 7 (some q10)))))))), (q2, .inl (cy 0, (30, .inl (fun _ => 0)))), (q3, mn1), (q4, mn1), (q5, mn1), (q6, mn1), (q7, mn1), (q8, mn1), (q9, mn1), (q10, mn1)]) [0, 1, 2, 3, 4, 5, 6, 7, 8, 9, 10] rfl
  have hD9 := hD.sub (ws' := [(h0, .inr (2, [.ref q1, .int 0, .ref q2, .int 0, .int (1)])), (q1, .inl (cy 2, (8, .inr (.inr (.inr (.inr (va_up (va_up (va_up (va_up (va_up (va_up (va_up (va_up (fun _ => none) 0 (some q3)) 1 (some q4)) 2 (some q5)) 3 (some q6)) 4 (some q7)) 5 (some q8)) 6 (some q9)) 7 (some q10)))))))), (q2, .inl (cy 0, (30, .inl (fun _ => 0)))), (q3, mn1), (q4, mn1), (q5, mn1), (q6, mn1), (q7, mn1), (q8, mn1), (q9, mn1), (q10, mn1)]) [0, 1, 2, 3, 4, 5, 6, 7, 8, 9, 10] (by decide) rfl
  refine W.widen (k := 10) (n := 86) (Nat.le_of_ble_eq_true rfl) (Nat.le_of_ble_eq_true rfl) ?_
  exact W.vret hx hb hr (fun t ht hW => ⟨⟨(), rfl, trivial, q1, q2, q3, q4, q5, q6, q7, q8, q9, q10, by rw [ht]; exact hP9, va_K.moved hW.alike hK, hD9⟩, hS.F ht⟩) hS.2.2 (show decode prog_4_method_1_code 53 = .ok (.return_, 1) by decide +kernel)
