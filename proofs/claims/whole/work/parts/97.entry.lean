/-! what holds at the law's entry -/
theorem st_K {args : Array Value} {s : State} (hts0 : ∀ w ∈ lw_tbl, w.before args s = true) : ∃ (D : va_G) (cy : Nat → ClassId), va_K D cls9 (tys cy) s := by
  have hts : ∀ w ∈ GW, w.before args s = true := fun w h => hts0 w (List.mem_filter.mp h).1
  obtain ⟨c0, i0, k0⟩ := u_known (C := RX0) (T := TX0) (N := 4) (n := 4) hts us_0 (hts (.instantiable RX0 4) (wi 1 149 rfl rfl))
  obtain ⟨c1, i1, k1⟩ := u_known (C := RX1) (T := TX1) (N := 2) (n := 2) hts us_1 (hts (.instantiable RX1 2) (wi 1 169 rfl rfl))
  obtain ⟨c2, i2, k2⟩ := u_known (C := RX2) (T := TX2) (N := 5) (n := 5) hts us_2 (hts (.instantiable RX2 5) (wi 1 27 rfl rfl))
  obtain ⟨c3, i3, k3⟩ := u_known (C := RX3) (T := TX3) (N := 6) (n := 6) hts us_3 (hts (.instantiable RX3 6) (wi 1 34 rfl rfl))
  obtain ⟨c4, i4, k4⟩ := u_known (C := RX4) (T := TX4) (N := 5) (n := 5) hts us_4 (hts (.instantiable RX4 5) (wi 1 182 rfl rfl))
  obtain ⟨c5, i5, k5⟩ := u_known (C := RX5) (T := TX5) (N := 4) (n := 4) hts us_5 (hts (.instantiable RX5 4) (wi 1 127 rfl rfl))
  obtain ⟨c6, i6, k6⟩ := u_known (C := RX6) (T := TX6) (N := 3) (n := 3) hts us_6 (hts (.instantiable RX6 3) (wi 1 105 rfl rfl))
  obtain ⟨c7, i7, k7⟩ := u_known (C := RX7) (T := TX7) (N := 10) (n := 10) hts us_7 (hts (.instantiable RX7 10) (wi 1 19 rfl rfl))
  obtain ⟨c8, i8, k8⟩ := u_known (C := RX8) (T := TX8) (N := 26) (n := 26) hts us_8 (hts (.instantiable RX8 26) (wi 4 156 rfl rfl))
  obtain ⟨ai, bi, di, a1, a2, a3⟩ := Cond.arrayClass_spec (hts (.arrayClass .int) (wi 1 73 rfl rfl))
  obtain ⟨al, bl, dl, b1, b2, b3⟩ := Cond.arrayClass_spec (hts (.arrayClass .long) (wi 1 125 rfl rfl))
  obtain ⟨dm, am, bm, m1, -, m2, m3, m4⟩ := Cond.arrayOver_spec (hts0 (.arrayOver (.object RX3)) (tc_in 1 (List.mem_of_getElem? (i := 33) rfl)))
  obtain ⟨ds, as, bs, s1, -, s2, s3, s4⟩ := Cond.arrayOver_spec (hts0 (.arrayOver (.object RX6)) (tc_in 1 (List.mem_of_getElem? (i := 104) rfl)))
  refine ⟨(fun k => ([c0, c1, c2, c3, c4, c5, c6, c7, c8] : List ClassId).getD k c0, fun k => ([i0, i1, i2, i3, i4, i5, i6, i7, i8] : List (Nat → Nat)).getD k i0), fun k => ([ai, al, am, as] : List ClassId).getD k ai, fun c q hq => ?_, fun k q hq => ?_⟩
  · match c, hq with
    | 0, hq => cases hq; exact k0
    | 1, hq => cases hq; exact k1
    | 2, hq => cases hq; exact k2
    | 3, hq => cases hq; exact k3
    | 4, hq => cases hq; exact k4
    | 5, hq => cases hq; exact k5
    | 6, hq => cases hq; exact k6
    | 7, hq => cases hq; exact k7
    | 8, hq => cases hq; exact k8
    | n + 9, hq => simp [cls9] at hq
  · match k, hq with
    | 0, hq => cases hq; exact ⟨fun N z => ⟨(fun k h => by cases h), bi, a2, di, a3⟩, a1⟩
    | 1, hq => cases hq; exact ⟨fun N z => ⟨(fun k h => by cases h), bl, b2, dl, b3⟩, b1⟩
    | 2, hq => cases hq; exact ⟨fun N z => ⟨(fun k h => by cases h), bm, m2, dm, m3⟩, bm, dm, m2, m3, m1, m4⟩
    | 3, hq => cases hq; exact ⟨fun N z => ⟨(fun k h => by cases h), bs, s2, ds, s3⟩, bs, ds, s2, s3, s1, s4⟩
    | n + 4, hq => simp [tys] at hq
def nr0 : Cond := Jvm.Cond.and given_1 narrow_1
def tR (i : Nat) : Term := Term.string "EveryonesThirdWord$Reader" (([75, 77, 79, 81, 83] : List Nat).getD i 0)
def sLen : List Nat := [3, 4, 4, 4, 4]
def sByt : List (List Int32) := [[109, 97, 110], [109, 101, 101, 116], [112, 97, 114, 116], [119, 111, 114, 100], [104, 117, 115, 104]]
def tA : Term := Term.static "EveryonesThirdWord" "ABOVE" "[I"
def tB : Term := Term.static "EveryonesThirdWord" "BODIES" "[I"
set_option maxRecDepth 100000 in
theorem q_A : Cond.arrayOf tA .int ∈ flatC nr0 ∧ Cond.eq (.length tA) (.int (Int32.ofNat 7)) ∈ flatC nr0 ∧ ∀ j, j < 7 → Cond.eq (.elem tA (.int (Int32.ofNat j))) (.int (ABV.getD j 0)) ∈ flatC nr0 := by decide +kernel
set_option maxRecDepth 100000 in
theorem q_B : Cond.arrayOf tB .int ∈ flatC nr0 ∧ Cond.eq (.length tB) (.int (Int32.ofNat 21)) ∈ flatC nr0 ∧ ∀ j, j < 21 → Cond.eq (.elem tB (.int (Int32.ofNat j))) (.int (BDS.getD j 0)) ∈ flatC nr0 := by decide +kernel
set_option maxRecDepth 100000 in
theorem q_ex : ∀ i : Nat, i < 5 → Cond.exactly (tR i) "java/lang/String" ∈ flatC nr0 := by decide +kernel
set_option maxRecDepth 100000 in
theorem q_co : ∀ i : Nat, i < 5 → Cond.eq (.field (tR i) "java/lang/String" "coder" "B") (.int 0) ∈ flatC nr0 := by decide +kernel
set_option maxRecDepth 100000 in
theorem q_ar : ∀ i : Nat, i < 5 → Cond.arrayOf (.field (tR i) "java/lang/String" "value" "[B") .byte ∈ flatC nr0 := by decide +kernel
set_option maxRecDepth 100000 in
theorem q_le : ∀ i : Nat, i < 5 → Cond.eq (.length (.field (tR i) "java/lang/String" "value" "[B")) (.int (Int32.ofNat (sLen.getD i 0))) ∈ flatC nr0 := by decide +kernel
set_option maxRecDepth 100000 in
theorem q_el : ∀ i : Nat, i < 5 → ∀ j : Nat, j < sLen.getD i 0 → Cond.eq (.elem (.field (tR i) "java/lang/String" "value" "[B") (.int (Int32.ofNat j))) (.int ((sByt.getD i []).getD j 0)) ∈ flatC nr0 := by decide +kernel
set_option maxRecDepth 100000 in
theorem q_ne : ∀ i : Nat, i < 5 → ∀ j : Nat, j < 5 → i ≠ j → (Cond.not (Cond.eq (tR i) (tR j)) ∈ flatC nr0 ∨ Cond.not (Cond.eq (tR j) (tR i)) ∈ flatC nr0) := by decide +kernel
set_option maxRecDepth 100000 in
theorem q_M : ∀ t, t ∈ ([(164, 1), (170, 0), (178, 2), (180, 3), (181, 4)] : List (Nat × Nat)) → Cond.eq (tR t.2) (Term.string "EveryonesThirdWordModel" t.1) ∈ flatC nr0 := by decide +kernel
set_option maxRecDepth 100000 in
theorem q_c : Cond.eq (.static "java/lang/String" "COMPACT_STRINGS" "Z") (.int 1) ∈ flatC nr0 ∧ Cond.isRef (.static "jdk/internal/util/Preconditions" "SIOOBE_FORMATTER" "Ljava/util/function/BiFunction;") ∈ flatC nr0 := by decide +kernel
def fX (tA tB b tS : Nat) (aK aV : Nat → Nat) (k : Nat) : Nat := if k = 81 then tA else if k = 82 then tB else if k = 83 then b else if k < 89 then aK (k - 84) else if k < 94 then aV (k - 89) else tS
theorem fX_K {tA tB b tS : Nat} {aK aV : Nat → Nat} {i : Nat} (h : i < 5) : fX tA tB b tS aK aV (84 + i) = aK i := by
  unfold fX
  rw [if_neg (by omega), if_neg (by omega), if_neg (by omega), if_pos (by omega), show 84 + i - 84 = i by omega]
theorem fX_V {tA tB b tS : Nat} {aK aV : Nat → Nat} {i : Nat} (h : i < 5) : fX tA tB b tS aK aV (89 + i) = aV i := by
  unfold fX
  rw [if_neg (by omega), if_neg (by omega), if_neg (by omega), if_neg (by omega), if_pos (by omega), show 89 + i - 89 = i by omega]
set_option maxHeartbeats 4000000 in
set_option maxRecDepth 100000 in
theorem st_X {s : State} {b L : Nat} {xs : Nat → Int32} (hts : ∀ w ∈ lw_tbl, w.before #[Value.ref b] s = true) (hgv : (Jvm.Cond.and given_1 narrow_1).before #[Value.ref b] s = true) (hX : va_X b L xs s s.heap) (hbl : b < s.heap.size) :
    ∃ f : Nat → Nat, f 83 = b ∧ ∀ φ av : Nat → Nat, (∀ k, 81 ≤ k → φ k = f k) → (∀ q, AS φ q → s.heap.size ≤ q) → XT φ av (W0 xs L) s s.heap := by
  have hs : ∀ c ∈ flatC nr0, c.before #[Value.ref b] s = true := flat_of_before _ hgv
  have ht : ∀ {w : Cond} (k i : Nat), (tc k)[i]? = some w → w.before #[Value.ref b] s = true := fun k i h => hts _ (tc_in k (List.mem_of_getElem? h))
  have hA : ∀ a : Nat, a < s.heap.size → ¬ (fun q : Nat => s.heap.size ≤ q) a := fun a h => Nat.not_le.mpr h
  obtain ⟨aA, eA, vA⟩ := va_Tof (tm := tA) (ty := .int) (N := 7) (f := fun j => .int (ABV.getD j 0)) (by decide) (hs _ q_A.1) (va_eqt (hs _ q_A.2.1)) (fun j hj => va_eqt (hs _ (q_A.2.2 j hj))) hA
  obtain ⟨aB, eB, vB⟩ := va_Tof (tm := tB) (ty := .int) (N := 21) (f := fun j => .int (BDS.getD j 0)) (by decide) (hs _ q_B.1) (va_eqt (hs _ q_B.2.1)) (fun j hj => va_eqt (hs _ (q_B.2.2 j hj))) hA
  have zA := va_Zref (C := "EveryonesThirdWord") (n := "ABOVE") (d := "[I") (ht 2 77 rfl) (ht 1 1 rfl) eA hA
  have zB := va_Zref (C := "EveryonesThirdWord") (n := "BODIES") (d := "[I") (ht 4 115 rfl) (ht 1 1 rfl) eB hA
  obtain ⟨aK, aV, vS, eS⟩ := vk_Sof (N := 5) (tm := tR) (len := sLen) (byt := sByt) (by decide) (fun i hi => hs _ (q_ex i hi)) (fun i hi => hs _ (q_co i hi)) (fun i hi => hs _ (q_ar i hi)) (fun i hi => hs _ (q_le i hi)) (fun i hi j hj => hs _ (q_el i hi j hj)) (fun i j hi hj h => (q_ne i hi j hj h).imp (hs _) (hs _)) hA
  have zC := va_Zof (C := "java/lang/String") (n := "COMPACT_STRINGS") (d := "Z") (ht 2 228 rfl) (ht 1 13 rfl) (va_eqi (hs _ q_c.1)) hA
  have zS : ∃ tS : Nat, va_Z "jdk/internal/util/Preconditions" "SIOOBE_FORMATTER" "Ljava/util/function/BiFunction;" .null (fun q : Nat => s.heap.size ≤ q) s s.heap ∨ va_Z "jdk/internal/util/Preconditions" "SIOOBE_FORMATTER" "Ljava/util/function/BiFunction;" (.ref tS) (fun q : Nat => s.heap.size ≤ q) s s.heap := by
    rcases va_Zqof (C := "jdk/internal/util/Preconditions") (n := "SIOOBE_FORMATTER") (d := "Ljava/util/function/BiFunction;") (ht 3 4 rfl) (ht 1 15 rfl) (hs _ q_c.2) hA with h | ⟨t, h⟩
    · exact ⟨0, Or.inl h⟩
    · exact ⟨t, Or.inr h⟩
  obtain ⟨tS, zS⟩ := zS
  have eM : ∀ t, t ∈ ([(164, 1), (170, 0), (178, 2), (180, 3), (181, 4)] : List (Nat × Nat)) → t.2 < 5 → (Term.string "EveryonesThirdWordModel" t.1).eval #[Value.ref b] s none [] s = some (.ref (aK t.2)) := fun t h h5 => va_eqR (hs _ (q_M t h)) (eS t.2 h5)
  refine ⟨fX aA aB b tS aK aV, rfl, fun φ av hφ hAS => ?_⟩
  have p81 : φ 81 = aA := hφ 81 (by omega)
  have p82 : φ 82 = aB := hφ 82 (by omega)
  have p83 : φ 83 = b := hφ 83 (by omega)
  have p94 : φ 94 = tS := hφ 94 (by omega)
  have pK : ∀ i, i < 5 → φ (84 + i) = aK i := fun i hi => (hφ _ (by omega)).trans (fX_K hi)
  have pV : ∀ i, i < 5 → φ (89 + i) = aV i := fun i hi => (hφ _ (by omega)).trans (fX_V hi)
  refine ⟨fun w hw => ?_, fun r hr => ?_, ?_, ⟨fun i hi => ?_, fun i j hi hj h => ?_⟩, fun k h1 h2 => ?_, zC.narrow hAS, ?_⟩
  · have h1 := hts w (List.mem_filter.mp hw).1
    rcases nest_cases hw with ⟨_, _, _, _, rfl⟩ | ⟨_, _, _, _, _, _, rfl⟩
    · exact va_Nw.of rfl h1
    · exact va_Nw.of rfl h1
  · rcases hr with rfl | rfl
    · rw [p81]
      exact zA.narrow hAS
    · rw [p82]
      exact zB.narrow hAS
  · have k0 := pK 0 (by omega)
    have k1 := pK 1 (by omega)
    have k2 := pK 2 (by omega)
    have k3 := pK 3 (by omega)
    have k4 := pK 4 (by omega)
    refine List.forall_mem_cons.mpr ⟨vk_R.of (ht 2 210 rfl) ?_, List.forall_mem_cons.mpr ⟨vk_R.of (ht 2 211 rfl) ?_, List.forall_mem_cons.mpr ⟨vk_R.of (ht 2 212 rfl) ?_, List.forall_mem_cons.mpr ⟨vk_R.of (ht 2 213 rfl) ?_, List.forall_mem_cons.mpr ⟨vk_R.of (ht 2 214 rfl) ?_, List.forall_mem_cons.mpr ⟨vk_R.of (ht 5 124 rfl) ?_, List.forall_mem_cons.mpr ⟨vk_R.of (ht 5 147 rfl) ?_, List.forall_mem_cons.mpr ⟨vk_R.of (ht 5 152 rfl) ?_, List.forall_mem_cons.mpr ⟨vk_R.of (ht 5 153 rfl) ?_, List.forall_mem_cons.mpr ⟨vk_R.of (ht 5 154 rfl) ?_, fun _ h => absurd h List.not_mem_nil⟩⟩⟩⟩⟩⟩⟩⟩⟩⟩
    · show _ = some (Value.ref (φ (84 + 0))); rw [k0]; exact eS 0 (by omega)
    · show _ = some (Value.ref (φ (84 + 1))); rw [k1]; exact eS 1 (by omega)
    · show _ = some (Value.ref (φ (84 + 2))); rw [k2]; exact eS 2 (by omega)
    · show _ = some (Value.ref (φ (84 + 3))); rw [k3]; exact eS 3 (by omega)
    · show _ = some (Value.ref (φ (84 + 4))); rw [k4]; exact eS 4 (by omega)
    · show _ = some (Value.ref (φ (84 + 1))); rw [k1]; exact eM (164, 1) (by decide) (by decide)
    · show _ = some (Value.ref (φ (84 + 0))); rw [k0]; exact eM (170, 0) (by decide) (by decide)
    · show _ = some (Value.ref (φ (84 + 2))); rw [k2]; exact eM (178, 2) (by decide) (by decide)
    · show _ = some (Value.ref (φ (84 + 3))); rw [k3]; exact eM (180, 3) (by decide) (by decide)
    · show _ = some (Value.ref (φ (84 + 4))); rw [k4]; exact eM (181, 4) (by decide) (by decide)
  · have q1 := (vS.narrow hAS).1 i hi
    simp only [pK i hi, pV i hi]
    exact q1
  · simp only [pK i hi, pK j hj] at h
    exact vS.2 i j hi hj h
  · rcases (show k = 81 ∨ k = 82 ∨ k = 83 by omega) with rfl | rfl | rfl
    · rw [p81]
      exact vA.narrow hAS
    · rw [p82]
      exact vB.narrow hAS
    · rw [p83]
      obtain ⟨scr, g1, g2, g3, g4, g5⟩ := hX
      exact ⟨scr, g1, g2, g3, Nat.le_of_eq g4.symm, by rw [g4]; rfl, g5, fun z => Nat.not_le.mpr hbl (hAS b z)⟩
  · rw [p94]
    rcases zS with z | z
    · exact Or.inl (z.narrow hAS)
    · exact Or.inr (z.narrow hAS)
