/-! the law's loop -/
theorem a83 (w : MW) : aln w 83 = w.2.2 := rfl
theorem inv_zw {sc : Nat → Int32} {N : Nat} {w : MW} (h : Inv sc N w) : Zw sc N w := ⟨h.2.2.2.2.2.2.1, h.2.2.2.2.2.2.2.1⟩
theorem mid {sc : Nat → Int32} {N : Nat} {x : Option RT} {w1 : MW} {v : Int32} (h1 : EI x (fun v' w2 => v' = v ∧ Inv sc N w2)) (hz : KZ (w1.1 83) w1.2.2 x) : Zw sc N w1 := by
  obtain ⟨r, w2, e, v', rfl, _, h2⟩ := h1
  have a := hz _ _ e
  have b := inv_zw h2
  exact ⟨a.1.symm.trans b.1, a.2.symm.trans b.2⟩
theorem sx {N i k : Nat} (x : Int32) (hx : x = nI k) (h : i + k < N) (hN : N ≤ 3072) : vpb (nI i + x) N = true := by
  rw [hx, nI_add]
  exact vpb_n h (by omega)
theorem l_1432 {sc : Nat → Int32} {N : Nat} {k18 : MW → Int32 → Option RT} {w : MW} {i : Nat} {P : Option Value → MW → Prop} (h : Inv sc N w) (hk : ∀ w', Inv sc N w' → Ev (k18 w' (nI (i + 6))) P) : Ev (f_L_law_1432 k18 FU w (nI i)) P := by
  show Ev (k18 w (nI i + 6)) P
  have e : nI i + (6 : Int32) = nI (i + 6) := by
    rw [show (6 : Int32) = nI 6 by decide, nI_add]
  rw [e]
  exact hk w h
theorem l_1409 {sc : Nat → Int32} {N : Nat} (hN : N ≤ 3072) {k18 : MW → Int32 → Option RT} {w : MW} {i : Nat} {P : Option Value → MW → Prop} (h : Inv sc N w) (hi : i + 6 ≤ N) (hk : ∀ w', Inv sc N w' → Ev (k18 w' (nI (i + 6))) P) : Ev (f_L_law_1409 k18 FU w (nI i)) P := by
  have zw := inv_zw h
  have g1 : vpb (nI i + 1) N = true := sx (k := 1) 1 (by decide) (by omega) hN
  suffices key : ∀ n, Ev (f_L_law_1409 k18 (n + 1) w (nI i)) P from key 999
  intro n
  rw [f_L_law_1409]
  rw [a83, zw.2, zw.1, grd_i g1]
  refine Ev.bI (sim_status (sc (nI i + 1).toNatClampNeg) sc N w h) (fun v1 w1 h1 => ?_)
  have h1' : EI (f_M_status w1 (sc (nI i + 1).toNatClampNeg)) (fun v' w2 => v' = v1 ∧ Inv sc N w2) := h1
  have z1 := mid h1' (z_f_M_status ⟨rfl, rfl⟩)
  rw [a83, z1.2, z1.1, grd_i g1]
  refine Ev.bI h1' (fun v2 w2 h2 => ?_)
  obtain ⟨rfl, h3⟩ := h2
  rw [if_pos rfl]
  exact l_1432 h3 hk
theorem l_1396 {sc : Nat → Int32} {N : Nat} (hN : N ≤ 3072) {k18 : MW → Int32 → Option RT} {w : MW} {i : Nat} {P : Option Value → MW → Prop} (h : Inv sc N w) (hi : i + 6 ≤ N) (hk : ∀ w', Inv sc N w' → Ev (k18 w' (nI (i + 6))) P) : Ev (f_L_law_1396 k18 FU w (nI i)) P := by
  have zw := inv_zw h
  suffices key : ∀ n, Ev (f_L_law_1396 k18 (n + 1) w (nI i)) P from key 999
  intro n
  rw [f_L_law_1396]
  refine Ev.bI (sim_restore sc N w h) (fun v1 w1 h1 => ?_)
  have h1' : EI (f_M_restore w1) (fun v' w2 => v' = v1 ∧ Inv sc N w2) := h1
  refine Ev.bI h1' (fun v2 w2 h2 => ?_)
  obtain ⟨rfl, h3⟩ := h2
  rw [if_pos rfl]
  exact l_1432 h3 hk
theorem l_1383 {sc : Nat → Int32} {N : Nat} (hN : N ≤ 3072) {k18 : MW → Int32 → Option RT} {w : MW} {i : Nat} {P : Option Value → MW → Prop} (h : Inv sc N w) (hi : i + 6 ≤ N) (hk : ∀ w', Inv sc N w' → Ev (k18 w' (nI (i + 6))) P) : Ev (f_L_law_1383 k18 FU w (nI i)) P := by
  have zw := inv_zw h
  suffices key : ∀ n, Ev (f_L_law_1383 k18 (n + 1) w (nI i)) P from key 999
  intro n
  rw [f_L_law_1383]
  refine Ev.bI (sim_image sc N w h) (fun v1 w1 h1 => ?_)
  have h1' : EI (f_M_image w1) (fun v' w2 => v' = v1 ∧ Inv sc N w2) := h1
  refine Ev.bI h1' (fun v2 w2 h2 => ?_)
  obtain ⟨rfl, h3⟩ := h2
  rw [if_pos rfl]
  exact l_1432 h3 hk
theorem l_1360 {sc : Nat → Int32} {N : Nat} (hN : N ≤ 3072) {k18 : MW → Int32 → Option RT} {w : MW} {i : Nat} {P : Option Value → MW → Prop} (h : Inv sc N w) (hi : i + 6 ≤ N) (hk : ∀ w', Inv sc N w' → Ev (k18 w' (nI (i + 6))) P) : Ev (f_L_law_1360 k18 FU w (nI i)) P := by
  have zw := inv_zw h
  have g1 : vpb (nI i + 1) N = true := sx (k := 1) 1 (by decide) (by omega) hN
  suffices key : ∀ n, Ev (f_L_law_1360 k18 (n + 1) w (nI i)) P from key 999
  intro n
  rw [f_L_law_1360]
  rw [a83, zw.2, zw.1, grd_i g1]
  refine Ev.bI (sim_trace (sc (nI i + 1).toNatClampNeg) sc N w h) (fun v1 w1 h1 => ?_)
  have h1' : EI (f_M_trace w1 (sc (nI i + 1).toNatClampNeg)) (fun v' w2 => v' = v1 ∧ Inv sc N w2) := h1
  have z1 := mid h1' (z_f_M_trace ⟨rfl, rfl⟩)
  rw [a83, z1.2, z1.1, grd_i g1]
  refine Ev.bI h1' (fun v2 w2 h2 => ?_)
  obtain ⟨rfl, h3⟩ := h2
  rw [if_pos rfl]
  exact l_1432 h3 hk
theorem l_1317 {sc : Nat → Int32} {N : Nat} (hN : N ≤ 3072) {k18 : MW → Int32 → Option RT} {w : MW} {i : Nat} {P : Option Value → MW → Prop} (h : Inv sc N w) (hi : i + 6 ≤ N) (hk : ∀ w', Inv sc N w' → Ev (k18 w' (nI (i + 6))) P) : Ev (f_L_law_1317 k18 FU w (nI i)) P := by
  have zw := inv_zw h
  have g1 : vpb (nI i + 1) N = true := sx (k := 1) 1 (by decide) (by omega) hN
  have g2 : vpb (nI i + 2) N = true := sx (k := 2) 2 (by decide) (by omega) hN
  have g3 : vpb (nI i + 3) N = true := sx (k := 3) 3 (by decide) (by omega) hN
  suffices key : ∀ n, Ev (f_L_law_1317 k18 (n + 1) w (nI i)) P from key 999
  intro n
  rw [f_L_law_1317]
  rw [a83, zw.2, zw.1, grd_i g1, grd_i g2, grd_i g3]
  refine Ev.bI (sim_act (sc (nI i + 1).toNatClampNeg) (sc (nI i + 2).toNatClampNeg) (sc (nI i + 3).toNatClampNeg) sc N w h) (fun v1 w1 h1 => ?_)
  have h1' : EI (f_M_act w1 (sc (nI i + 1).toNatClampNeg) (sc (nI i + 2).toNatClampNeg) (sc (nI i + 3).toNatClampNeg)) (fun v' w2 => v' = v1 ∧ Inv sc N w2) := h1
  have z1 := mid h1' (z_f_M_act ⟨rfl, rfl⟩)
  rw [a83, z1.2, z1.1, grd_i g1, grd_i g2, grd_i g3]
  refine Ev.bI h1' (fun v2 w2 h2 => ?_)
  obtain ⟨rfl, h3⟩ := h2
  rw [if_pos rfl]
  exact l_1432 h3 hk
theorem l_1294 {sc : Nat → Int32} {N : Nat} (hN : N ≤ 3072) {k18 : MW → Int32 → Option RT} {w : MW} {i : Nat} {P : Option Value → MW → Prop} (h : Inv sc N w) (hi : i + 6 ≤ N) (hk : ∀ w', Inv sc N w' → Ev (k18 w' (nI (i + 6))) P) : Ev (f_L_law_1294 k18 FU w (nI i)) P := by
  have zw := inv_zw h
  have g1 : vpb (nI i + 1) N = true := sx (k := 1) 1 (by decide) (by omega) hN
  suffices key : ∀ n, Ev (f_L_law_1294 k18 (n + 1) w (nI i)) P from key 999
  intro n
  rw [f_L_law_1294]
  rw [a83, zw.2, zw.1, grd_i g1]
  refine Ev.bI (sim_seed (sc (nI i + 1).toNatClampNeg) sc N w h) (fun v1 w1 h1 => ?_)
  have h1' : EI (f_M_seed w1 (sc (nI i + 1).toNatClampNeg)) (fun v' w2 => v' = v1 ∧ Inv sc N w2) := h1
  have z1 := mid h1' (z_f_M_seed ⟨rfl, rfl⟩)
  rw [a83, z1.2, z1.1, grd_i g1]
  refine Ev.bI h1' (fun v2 w2 h2 => ?_)
  obtain ⟨rfl, h3⟩ := h2
  rw [if_pos rfl]
  exact l_1432 h3 hk
theorem l_1271 {sc : Nat → Int32} {N : Nat} (hN : N ≤ 3072) {k18 : MW → Int32 → Option RT} {w : MW} {i : Nat} {P : Option Value → MW → Prop} (h : Inv sc N w) (hi : i + 6 ≤ N) (hk : ∀ w', Inv sc N w' → Ev (k18 w' (nI (i + 6))) P) : Ev (f_L_law_1271 k18 FU w (nI i)) P := by
  have zw := inv_zw h
  have g1 : vpb (nI i + 1) N = true := sx (k := 1) 1 (by decide) (by omega) hN
  suffices key : ∀ n, Ev (f_L_law_1271 k18 (n + 1) w (nI i)) P from key 999
  intro n
  rw [f_L_law_1271]
  rw [a83, zw.2, zw.1, grd_i g1]
  refine Ev.bI (sim_reign (sc (nI i + 1).toNatClampNeg) sc N w h) (fun v1 w1 h1 => ?_)
  have h1' : EI (f_M_reign w1 (sc (nI i + 1).toNatClampNeg)) (fun v' w2 => v' = v1 ∧ Inv sc N w2) := h1
  have z1 := mid h1' (z_f_M_reign ⟨rfl, rfl⟩)
  rw [a83, z1.2, z1.1, grd_i g1]
  refine Ev.bI h1' (fun v2 w2 h2 => ?_)
  obtain ⟨rfl, h3⟩ := h2
  rw [if_pos rfl]
  exact l_1432 h3 hk
theorem l_1248 {sc : Nat → Int32} {N : Nat} (hN : N ≤ 3072) {k18 : MW → Int32 → Option RT} {w : MW} {i : Nat} {P : Option Value → MW → Prop} (h : Inv sc N w) (hi : i + 6 ≤ N) (hk : ∀ w', Inv sc N w' → Ev (k18 w' (nI (i + 6))) P) : Ev (f_L_law_1248 k18 FU w (nI i)) P := by
  have zw := inv_zw h
  have g1 : vpb (nI i + 1) N = true := sx (k := 1) 1 (by decide) (by omega) hN
  suffices key : ∀ n, Ev (f_L_law_1248 k18 (n + 1) w (nI i)) P from key 999
  intro n
  rw [f_L_law_1248]
  rw [a83, zw.2, zw.1, grd_i g1]
  refine Ev.bI (sim_audience (sc (nI i + 1).toNatClampNeg) sc N w h) (fun v1 w1 h1 => ?_)
  have h1' : EI (f_M_audience w1 (sc (nI i + 1).toNatClampNeg)) (fun v' w2 => v' = v1 ∧ Inv sc N w2) := h1
  have z1 := mid h1' (z_f_M_audience ⟨rfl, rfl⟩)
  rw [a83, z1.2, z1.1, grd_i g1]
  refine Ev.bI h1' (fun v2 w2 h2 => ?_)
  obtain ⟨rfl, h3⟩ := h2
  rw [if_pos rfl]
  exact l_1432 h3 hk
theorem l_1205 {sc : Nat → Int32} {N : Nat} (hN : N ≤ 3072) {k18 : MW → Int32 → Option RT} {w : MW} {i : Nat} {P : Option Value → MW → Prop} (h : Inv sc N w) (hi : i + 6 ≤ N) (hk : ∀ w', Inv sc N w' → Ev (k18 w' (nI (i + 6))) P) : Ev (f_L_law_1205 k18 FU w (nI i)) P := by
  have zw := inv_zw h
  have g1 : vpb (nI i + 1) N = true := sx (k := 1) 1 (by decide) (by omega) hN
  have g2 : vpb (nI i + 2) N = true := sx (k := 2) 2 (by decide) (by omega) hN
  have g3 : vpb (nI i + 3) N = true := sx (k := 3) 3 (by decide) (by omega) hN
  suffices key : ∀ n, Ev (f_L_law_1205 k18 (n + 1) w (nI i)) P from key 999
  intro n
  rw [f_L_law_1205]
  rw [a83, zw.2, zw.1, grd_i g1, grd_i g2, grd_i g3]
  refine Ev.bI (sim_would (sc (nI i + 1).toNatClampNeg) (sc (nI i + 2).toNatClampNeg) (sc (nI i + 3).toNatClampNeg) sc N w h) (fun v1 w1 h1 => ?_)
  have h1' : EI (f_M_would w1 (sc (nI i + 1).toNatClampNeg) (sc (nI i + 2).toNatClampNeg) (sc (nI i + 3).toNatClampNeg)) (fun v' w2 => v' = v1 ∧ Inv sc N w2) := h1
  have z1 := mid h1' (z_f_M_would ⟨rfl, rfl⟩)
  rw [a83, z1.2, z1.1, grd_i g1, grd_i g2, grd_i g3]
  refine Ev.bI h1' (fun v2 w2 h2 => ?_)
  obtain ⟨rfl, h3⟩ := h2
  rw [if_pos rfl]
  exact l_1432 h3 hk
theorem l_1172 {sc : Nat → Int32} {N : Nat} (hN : N ≤ 3072) {k18 : MW → Int32 → Option RT} {w : MW} {i : Nat} {P : Option Value → MW → Prop} (h : Inv sc N w) (hi : i + 6 ≤ N) (hk : ∀ w', Inv sc N w' → Ev (k18 w' (nI (i + 6))) P) : Ev (f_L_law_1172 k18 FU w (nI i)) P := by
  have zw := inv_zw h
  have g1 : vpb (nI i + 1) N = true := sx (k := 1) 1 (by decide) (by omega) hN
  have g2 : vpb (nI i + 2) N = true := sx (k := 2) 2 (by decide) (by omega) hN
  suffices key : ∀ n, Ev (f_L_law_1172 k18 (n + 1) w (nI i)) P from key 999
  intro n
  rw [f_L_law_1172]
  rw [a83, zw.2, zw.1, grd_i g1, grd_i g2]
  refine Ev.bI (sim_judge (sc (nI i + 1).toNatClampNeg) (sc (nI i + 2).toNatClampNeg) sc N w h) (fun v1 w1 h1 => ?_)
  have h1' : EI (f_M_judge w1 (sc (nI i + 1).toNatClampNeg) (sc (nI i + 2).toNatClampNeg)) (fun v' w2 => v' = v1 ∧ Inv sc N w2) := h1
  have z1 := mid h1' (z_f_M_judge ⟨rfl, rfl⟩)
  rw [a83, z1.2, z1.1, grd_i g1, grd_i g2]
  refine Ev.bI h1' (fun v2 w2 h2 => ?_)
  obtain ⟨rfl, h3⟩ := h2
  rw [if_pos rfl]
  exact l_1432 h3 hk
theorem l_1159 {sc : Nat → Int32} {N : Nat} (hN : N ≤ 3072) {k18 : MW → Int32 → Option RT} {w : MW} {i : Nat} {P : Option Value → MW → Prop} (h : Inv sc N w) (hi : i + 6 ≤ N) (hk : ∀ w', Inv sc N w' → Ev (k18 w' (nI (i + 6))) P) : Ev (f_L_law_1159 k18 FU w (nI i)) P := by
  have zw := inv_zw h
  suffices key : ∀ n, Ev (f_L_law_1159 k18 (n + 1) w (nI i)) P from key 999
  intro n
  rw [f_L_law_1159]
  refine Ev.bI (sim_swap sc N w h) (fun v1 w1 h1 => ?_)
  have h1' : EI (f_M_swap w1) (fun v' w2 => v' = v1 ∧ Inv sc N w2) := h1
  refine Ev.bI h1' (fun v2 w2 h2 => ?_)
  obtain ⟨rfl, h3⟩ := h2
  rw [if_pos rfl]
  exact l_1432 h3 hk
theorem l_1136 {sc : Nat → Int32} {N : Nat} (hN : N ≤ 3072) {k18 : MW → Int32 → Option RT} {w : MW} {i : Nat} {P : Option Value → MW → Prop} (h : Inv sc N w) (hi : i + 6 ≤ N) (hk : ∀ w', Inv sc N w' → Ev (k18 w' (nI (i + 6))) P) : Ev (f_L_law_1136 k18 FU w (nI i)) P := by
  have zw := inv_zw h
  have g1 : vpb (nI i + 1) N = true := sx (k := 1) 1 (by decide) (by omega) hN
  suffices key : ∀ n, Ev (f_L_law_1136 k18 (n + 1) w (nI i)) P from key 999
  intro n
  rw [f_L_law_1136]
  rw [a83, zw.2, zw.1, grd_i g1]
  refine Ev.bI (sim_could (sc (nI i + 1).toNatClampNeg) sc N w h) (fun v1 w1 h1 => ?_)
  have h1' : EI (f_M_could w1 (sc (nI i + 1).toNatClampNeg)) (fun v' w2 => v' = v1 ∧ Inv sc N w2) := h1
  have z1 := mid h1' (z_f_M_could ⟨rfl, rfl⟩)
  rw [a83, z1.2, z1.1, grd_i g1]
  refine Ev.bI h1' (fun v2 w2 h2 => ?_)
  obtain ⟨rfl, h3⟩ := h2
  rw [if_pos rfl]
  exact l_1432 h3 hk
theorem l_1103 {sc : Nat → Int32} {N : Nat} (hN : N ≤ 3072) {k18 : MW → Int32 → Option RT} {w : MW} {i : Nat} {P : Option Value → MW → Prop} (h : Inv sc N w) (hi : i + 6 ≤ N) (hk : ∀ w', Inv sc N w' → Ev (k18 w' (nI (i + 6))) P) : Ev (f_L_law_1103 k18 FU w (nI i)) P := by
  have zw := inv_zw h
  have g1 : vpb (nI i + 1) N = true := sx (k := 1) 1 (by decide) (by omega) hN
  have g2 : vpb (nI i + 2) N = true := sx (k := 2) 2 (by decide) (by omega) hN
  suffices key : ∀ n, Ev (f_L_law_1103 k18 (n + 1) w (nI i)) P from key 999
  intro n
  rw [f_L_law_1103]
  rw [a83, zw.2, zw.1, grd_i g1, grd_i g2]
  refine Ev.bI (sim_count (sc (nI i + 1).toNatClampNeg) (sc (nI i + 2).toNatClampNeg) sc N w h) (fun v1 w1 h1 => ?_)
  have h1' : EI (f_M_count w1 (sc (nI i + 1).toNatClampNeg) (sc (nI i + 2).toNatClampNeg)) (fun v' w2 => v' = v1 ∧ Inv sc N w2) := h1
  have z1 := mid h1' (z_f_M_count ⟨rfl, rfl⟩)
  rw [a83, z1.2, z1.1, grd_i g1, grd_i g2]
  refine Ev.bI h1' (fun v2 w2 h2 => ?_)
  obtain ⟨rfl, h3⟩ := h2
  rw [if_pos rfl]
  exact l_1432 h3 hk
theorem l_1080 {sc : Nat → Int32} {N : Nat} (hN : N ≤ 3072) {k18 : MW → Int32 → Option RT} {w : MW} {i : Nat} {P : Option Value → MW → Prop} (h : Inv sc N w) (hi : i + 6 ≤ N) (hk : ∀ w', Inv sc N w' → Ev (k18 w' (nI (i + 6))) P) : Ev (f_L_law_1080 k18 FU w (nI i)) P := by
  have zw := inv_zw h
  have g1 : vpb (nI i + 1) N = true := sx (k := 1) 1 (by decide) (by omega) hN
  suffices key : ∀ n, Ev (f_L_law_1080 k18 (n + 1) w (nI i)) P from key 999
  intro n
  rw [f_L_law_1080]
  rw [a83, zw.2, zw.1, grd_i g1]
  refine Ev.bI (sim_needs (sc (nI i + 1).toNatClampNeg) sc N w h) (fun v1 w1 h1 => ?_)
  have h1' : EI (f_M_needs w1 (sc (nI i + 1).toNatClampNeg)) (fun v' w2 => v' = v1 ∧ Inv sc N w2) := h1
  have z1 := mid h1' (z_f_M_needs ⟨rfl, rfl⟩)
  rw [a83, z1.2, z1.1, grd_i g1]
  refine Ev.bI h1' (fun v2 w2 h2 => ?_)
  obtain ⟨rfl, h3⟩ := h2
  rw [if_pos rfl]
  exact l_1432 h3 hk
theorem l_1027 {sc : Nat → Int32} {N : Nat} (hN : N ≤ 3072) {k18 : MW → Int32 → Option RT} {w : MW} {i : Nat} {P : Option Value → MW → Prop} (h : Inv sc N w) (hi : i + 6 ≤ N) (hk : ∀ w', Inv sc N w' → Ev (k18 w' (nI (i + 6))) P) : Ev (f_L_law_1027 k18 FU w (nI i)) P := by
  have zw := inv_zw h
  have g1 : vpb (nI i + 1) N = true := sx (k := 1) 1 (by decide) (by omega) hN
  have g2 : vpb (nI i + 2) N = true := sx (k := 2) 2 (by decide) (by omega) hN
  have g3 : vpb (nI i + 3) N = true := sx (k := 3) 3 (by decide) (by omega) hN
  have g4 : vpb (nI i + 4) N = true := sx (k := 4) 4 (by decide) (by omega) hN
  suffices key : ∀ n, Ev (f_L_law_1027 k18 (n + 1) w (nI i)) P from key 999
  intro n
  rw [f_L_law_1027]
  rw [a83, zw.2, zw.1, grd_i g1, grd_i g2, grd_i g3, grd_i g4]
  refine Ev.bI (sim_speak (sc (nI i + 1).toNatClampNeg) (sc (nI i + 2).toNatClampNeg) (sc (nI i + 3).toNatClampNeg) (sc (nI i + 4).toNatClampNeg) sc N w h) (fun v1 w1 h1 => ?_)
  have h1' : EI (f_M_speak w1 (sc (nI i + 1).toNatClampNeg) (sc (nI i + 2).toNatClampNeg) (sc (nI i + 3).toNatClampNeg) (sc (nI i + 4).toNatClampNeg)) (fun v' w2 => v' = v1 ∧ Inv sc N w2) := h1
  have z1 := mid h1' (z_f_M_speak ⟨rfl, rfl⟩)
  rw [a83, z1.2, z1.1, grd_i g1, grd_i g2, grd_i g3, grd_i g4]
  refine Ev.bI h1' (fun v2 w2 h2 => ?_)
  obtain ⟨rfl, h3⟩ := h2
  rw [if_pos rfl]
  exact l_1432 h3 hk
theorem l_1014 {sc : Nat → Int32} {N : Nat} (hN : N ≤ 3072) {k18 : MW → Int32 → Option RT} {w : MW} {i : Nat} {P : Option Value → MW → Prop} (h : Inv sc N w) (hi : i + 6 ≤ N) (hk : ∀ w', Inv sc N w' → Ev (k18 w' (nI (i + 6))) P) : Ev (f_L_law_1014 k18 FU w (nI i)) P := by
  have zw := inv_zw h
  suffices key : ∀ n, Ev (f_L_law_1014 k18 (n + 1) w (nI i)) P from key 999
  intro n
  rw [f_L_law_1014]
  refine Ev.bI (sim_lose sc N w h) (fun v1 w1 h1 => ?_)
  have h1' : EI (f_M_lose w1) (fun v' w2 => v' = v1 ∧ Inv sc N w2) := h1
  refine Ev.bI h1' (fun v2 w2 h2 => ?_)
  obtain ⟨rfl, h3⟩ := h2
  rw [if_pos rfl]
  exact l_1432 h3 hk
theorem l_991 {sc : Nat → Int32} {N : Nat} (hN : N ≤ 3072) {k18 : MW → Int32 → Option RT} {w : MW} {i : Nat} {P : Option Value → MW → Prop} (h : Inv sc N w) (hi : i + 6 ≤ N) (hk : ∀ w', Inv sc N w' → Ev (k18 w' (nI (i + 6))) P) : Ev (f_L_law_991 k18 FU w (nI i)) P := by
  have zw := inv_zw h
  have g1 : vpb (nI i + 1) N = true := sx (k := 1) 1 (by decide) (by omega) hN
  suffices key : ∀ n, Ev (f_L_law_991 k18 (n + 1) w (nI i)) P from key 999
  intro n
  rw [f_L_law_991]
  rw [a83, zw.2, zw.1, grd_i g1]
  refine Ev.bI (sim_apart (sc (nI i + 1).toNatClampNeg) sc N w h) (fun v1 w1 h1 => ?_)
  have h1' : EI (f_M_apart w1 (sc (nI i + 1).toNatClampNeg)) (fun v' w2 => v' = v1 ∧ Inv sc N w2) := h1
  have z1 := mid h1' (z_f_M_apart ⟨rfl, rfl⟩)
  rw [a83, z1.2, z1.1, grd_i g1]
  refine Ev.bI h1' (fun v2 w2 h2 => ?_)
  obtain ⟨rfl, h3⟩ := h2
  rw [if_pos rfl]
  exact l_1432 h3 hk
theorem l_968 {sc : Nat → Int32} {N : Nat} (hN : N ≤ 3072) {k18 : MW → Int32 → Option RT} {w : MW} {i : Nat} {P : Option Value → MW → Prop} (h : Inv sc N w) (hi : i + 6 ≤ N) (hk : ∀ w', Inv sc N w' → Ev (k18 w' (nI (i + 6))) P) : Ev (f_L_law_968 k18 FU w (nI i)) P := by
  have zw := inv_zw h
  have g1 : vpb (nI i + 1) N = true := sx (k := 1) 1 (by decide) (by omega) hN
  suffices key : ∀ n, Ev (f_L_law_968 k18 (n + 1) w (nI i)) P from key 999
  intro n
  rw [f_L_law_968]
  rw [a83, zw.2, zw.1, grd_i g1]
  refine Ev.bI (sim_wrongOnes (sc (nI i + 1).toNatClampNeg) sc N w h) (fun v1 w1 h1 => ?_)
  have h1' : EI (f_M_wrongOnes w1 (sc (nI i + 1).toNatClampNeg)) (fun v' w2 => v' = v1 ∧ Inv sc N w2) := h1
  have z1 := mid h1' (z_f_M_wrongOnes ⟨rfl, rfl⟩)
  rw [a83, z1.2, z1.1, grd_i g1]
  refine Ev.bI h1' (fun v2 w2 h2 => ?_)
  obtain ⟨rfl, h3⟩ := h2
  rw [if_pos rfl]
  exact l_1432 h3 hk
theorem l_945 {sc : Nat → Int32} {N : Nat} (hN : N ≤ 3072) {k18 : MW → Int32 → Option RT} {w : MW} {i : Nat} {P : Option Value → MW → Prop} (h : Inv sc N w) (hi : i + 6 ≤ N) (hk : ∀ w', Inv sc N w' → Ev (k18 w' (nI (i + 6))) P) : Ev (f_L_law_945 k18 FU w (nI i)) P := by
  have zw := inv_zw h
  have g1 : vpb (nI i + 1) N = true := sx (k := 1) 1 (by decide) (by omega) hN
  suffices key : ∀ n, Ev (f_L_law_945 k18 (n + 1) w (nI i)) P from key 999
  intro n
  rw [f_L_law_945]
  rw [a83, zw.2, zw.1, grd_i g1]
  refine Ev.bI (sim_soon (sc (nI i + 1).toNatClampNeg) sc N w h) (fun v1 w1 h1 => ?_)
  have h1' : EI (f_M_soon w1 (sc (nI i + 1).toNatClampNeg)) (fun v' w2 => v' = v1 ∧ Inv sc N w2) := h1
  have z1 := mid h1' (z_f_M_soon ⟨rfl, rfl⟩)
  rw [a83, z1.2, z1.1, grd_i g1]
  refine Ev.bI h1' (fun v2 w2 h2 => ?_)
  obtain ⟨rfl, h3⟩ := h2
  rw [if_pos rfl]
  exact l_1432 h3 hk
theorem l_922 {sc : Nat → Int32} {N : Nat} (hN : N ≤ 3072) {k18 : MW → Int32 → Option RT} {w : MW} {i : Nat} {P : Option Value → MW → Prop} (h : Inv sc N w) (hi : i + 6 ≤ N) (hk : ∀ w', Inv sc N w' → Ev (k18 w' (nI (i + 6))) P) : Ev (f_L_law_922 k18 FU w (nI i)) P := by
  have zw := inv_zw h
  have g1 : vpb (nI i + 1) N = true := sx (k := 1) 1 (by decide) (by omega) hN
  suffices key : ∀ n, Ev (f_L_law_922 k18 (n + 1) w (nI i)) P from key 999
  intro n
  rw [f_L_law_922]
  rw [a83, zw.2, zw.1, grd_i g1]
  refine Ev.bI (sim_ask (sc (nI i + 1).toNatClampNeg) sc N w h) (fun v1 w1 h1 => ?_)
  have h1' : EI (f_M_ask w1 (sc (nI i + 1).toNatClampNeg)) (fun v' w2 => v' = v1 ∧ Inv sc N w2) := h1
  have z1 := mid h1' (z_f_M_ask ⟨rfl, rfl⟩)
  rw [a83, z1.2, z1.1, grd_i g1]
  refine Ev.bI h1' (fun v2 w2 h2 => ?_)
  obtain ⟨rfl, h3⟩ := h2
  rw [if_pos rfl]
  exact l_1432 h3 hk
theorem l_909 {sc : Nat → Int32} {N : Nat} (hN : N ≤ 3072) {k18 : MW → Int32 → Option RT} {w : MW} {i : Nat} {P : Option Value → MW → Prop} (h : Inv sc N w) (hi : i + 6 ≤ N) (hk : ∀ w', Inv sc N w' → Ev (k18 w' (nI (i + 6))) P) : Ev (f_L_law_909 k18 FU w (nI i)) P := by
  have zw := inv_zw h
  suffices key : ∀ n, Ev (f_L_law_909 k18 (n + 1) w (nI i)) P from key 999
  intro n
  rw [f_L_law_909]
  refine Ev.bI (sim_cover sc N w h) (fun v1 w1 h1 => ?_)
  have h1' : EI (f_M_cover w1) (fun v' w2 => v' = v1 ∧ Inv sc N w2) := h1
  refine Ev.bI h1' (fun v2 w2 h2 => ?_)
  obtain ⟨rfl, h3⟩ := h2
  rw [if_pos rfl]
  exact l_1432 h3 hk
theorem l_876 {sc : Nat → Int32} {N : Nat} (hN : N ≤ 3072) {k18 : MW → Int32 → Option RT} {w : MW} {i : Nat} {P : Option Value → MW → Prop} (h : Inv sc N w) (hi : i + 6 ≤ N) (hk : ∀ w', Inv sc N w' → Ev (k18 w' (nI (i + 6))) P) : Ev (f_L_law_876 k18 FU w (nI i)) P := by
  have zw := inv_zw h
  have g1 : vpb (nI i + 1) N = true := sx (k := 1) 1 (by decide) (by omega) hN
  have g2 : vpb (nI i + 2) N = true := sx (k := 2) 2 (by decide) (by omega) hN
  suffices key : ∀ n, Ev (f_L_law_876 k18 (n + 1) w (nI i)) P from key 999
  intro n
  rw [f_L_law_876]
  rw [a83, zw.2, zw.1, grd_i g1, grd_i g2]
  refine Ev.bI (sim_together (sc (nI i + 1).toNatClampNeg) (sc (nI i + 2).toNatClampNeg) sc N w h) (fun v1 w1 h1 => ?_)
  have h1' : EI (f_M_together w1 (sc (nI i + 1).toNatClampNeg) (sc (nI i + 2).toNatClampNeg)) (fun v' w2 => v' = v1 ∧ Inv sc N w2) := h1
  have z1 := mid h1' (z_f_M_together ⟨rfl, rfl⟩)
  rw [a83, z1.2, z1.1, grd_i g1, grd_i g2]
  refine Ev.bI h1' (fun v2 w2 h2 => ?_)
  obtain ⟨rfl, h3⟩ := h2
  rw [if_pos rfl]
  exact l_1432 h3 hk
theorem l_853 {sc : Nat → Int32} {N : Nat} (hN : N ≤ 3072) {k18 : MW → Int32 → Option RT} {w : MW} {i : Nat} {P : Option Value → MW → Prop} (h : Inv sc N w) (hi : i + 6 ≤ N) (hk : ∀ w', Inv sc N w' → Ev (k18 w' (nI (i + 6))) P) : Ev (f_L_law_853 k18 FU w (nI i)) P := by
  have zw := inv_zw h
  have g1 : vpb (nI i + 1) N = true := sx (k := 1) 1 (by decide) (by omega) hN
  suffices key : ∀ n, Ev (f_L_law_853 k18 (n + 1) w (nI i)) P from key 999
  intro n
  rw [f_L_law_853]
  rw [a83, zw.2, zw.1, grd_i g1]
  refine Ev.bI (sim_belief (sc (nI i + 1).toNatClampNeg) sc N w h) (fun v1 w1 h1 => ?_)
  have h1' : EI (f_M_belief w1 (sc (nI i + 1).toNatClampNeg)) (fun v' w2 => v' = v1 ∧ Inv sc N w2) := h1
  have z1 := mid h1' (z_f_M_belief ⟨rfl, rfl⟩)
  rw [a83, z1.2, z1.1, grd_i g1]
  refine Ev.bI h1' (fun v2 w2 h2 => ?_)
  obtain ⟨rfl, h3⟩ := h2
  rw [if_pos rfl]
  exact l_1432 h3 hk
theorem l_820 {sc : Nat → Int32} {N : Nat} (hN : N ≤ 3072) {k18 : MW → Int32 → Option RT} {w : MW} {i : Nat} {P : Option Value → MW → Prop} (h : Inv sc N w) (hi : i + 6 ≤ N) (hk : ∀ w', Inv sc N w' → Ev (k18 w' (nI (i + 6))) P) : Ev (f_L_law_820 k18 FU w (nI i)) P := by
  have zw := inv_zw h
  have g1 : vpb (nI i + 1) N = true := sx (k := 1) 1 (by decide) (by omega) hN
  have g2 : vpb (nI i + 2) N = true := sx (k := 2) 2 (by decide) (by omega) hN
  suffices key : ∀ n, Ev (f_L_law_820 k18 (n + 1) w (nI i)) P from key 999
  intro n
  rw [f_L_law_820]
  rw [a83, zw.2, zw.1, grd_i g1, grd_i g2]
  refine Ev.bI (sim_known (sc (nI i + 1).toNatClampNeg) (sc (nI i + 2).toNatClampNeg) sc N w h) (fun v1 w1 h1 => ?_)
  have h1' : EI (f_M_known w1 (sc (nI i + 1).toNatClampNeg) (sc (nI i + 2).toNatClampNeg)) (fun v' w2 => v' = v1 ∧ Inv sc N w2) := h1
  have z1 := mid h1' (z_f_M_known ⟨rfl, rfl⟩)
  rw [a83, z1.2, z1.1, grd_i g1, grd_i g2]
  refine Ev.bI h1' (fun v2 w2 h2 => ?_)
  obtain ⟨rfl, h3⟩ := h2
  rw [if_pos rfl]
  exact l_1432 h3 hk
theorem l_807 {sc : Nat → Int32} {N : Nat} (hN : N ≤ 3072) {k18 : MW → Int32 → Option RT} {w : MW} {i : Nat} {P : Option Value → MW → Prop} (h : Inv sc N w) (hi : i + 6 ≤ N) (hk : ∀ w', Inv sc N w' → Ev (k18 w' (nI (i + 6))) P) : Ev (f_L_law_807 k18 FU w (nI i)) P := by
  have zw := inv_zw h
  suffices key : ∀ n, Ev (f_L_law_807 k18 (n + 1) w (nI i)) P from key 999
  intro n
  rw [f_L_law_807]
  refine Ev.bI (sim_whole sc N w h) (fun v1 w1 h1 => ?_)
  have h1' : EI (f_M_whole w1) (fun v' w2 => v' = v1 ∧ Inv sc N w2) := h1
  refine Ev.bI h1' (fun v2 w2 h2 => ?_)
  obtain ⟨rfl, h3⟩ := h2
  rw [if_pos rfl]
  exact l_1432 h3 hk
theorem l_774 {sc : Nat → Int32} {N : Nat} (hN : N ≤ 3072) {k18 : MW → Int32 → Option RT} {w : MW} {i : Nat} {P : Option Value → MW → Prop} (h : Inv sc N w) (hi : i + 6 ≤ N) (hk : ∀ w', Inv sc N w' → Ev (k18 w' (nI (i + 6))) P) : Ev (f_L_law_774 k18 FU w (nI i)) P := by
  have zw := inv_zw h
  have g1 : vpb (nI i + 1) N = true := sx (k := 1) 1 (by decide) (by omega) hN
  have g2 : vpb (nI i + 2) N = true := sx (k := 2) 2 (by decide) (by omega) hN
  suffices key : ∀ n, Ev (f_L_law_774 k18 (n + 1) w (nI i)) P from key 999
  intro n
  rw [f_L_law_774]
  rw [a83, zw.2, zw.1, grd_i g1, grd_i g2]
  refine Ev.bI (sim_sense (sc (nI i + 1).toNatClampNeg) (sc (nI i + 2).toNatClampNeg) sc N w h) (fun v1 w1 h1 => ?_)
  have h1' : EI (f_M_sense w1 (sc (nI i + 1).toNatClampNeg) (sc (nI i + 2).toNatClampNeg)) (fun v' w2 => v' = v1 ∧ Inv sc N w2) := h1
  have z1 := mid h1' (z_f_M_sense ⟨rfl, rfl⟩)
  rw [a83, z1.2, z1.1, grd_i g1, grd_i g2]
  refine Ev.bI h1' (fun v2 w2 h2 => ?_)
  obtain ⟨rfl, h3⟩ := h2
  rw [if_pos rfl]
  exact l_1432 h3 hk
theorem l_741 {sc : Nat → Int32} {N : Nat} (hN : N ≤ 3072) {k18 : MW → Int32 → Option RT} {w : MW} {i : Nat} {P : Option Value → MW → Prop} (h : Inv sc N w) (hi : i + 6 ≤ N) (hk : ∀ w', Inv sc N w' → Ev (k18 w' (nI (i + 6))) P) : Ev (f_L_law_741 k18 FU w (nI i)) P := by
  have zw := inv_zw h
  have g1 : vpb (nI i + 1) N = true := sx (k := 1) 1 (by decide) (by omega) hN
  have g2 : vpb (nI i + 2) N = true := sx (k := 2) 2 (by decide) (by omega) hN
  suffices key : ∀ n, Ev (f_L_law_741 k18 (n + 1) w (nI i)) P from key 999
  intro n
  rw [f_L_law_741]
  rw [a83, zw.2, zw.1, grd_i g1, grd_i g2]
  refine Ev.bI (sim_hears (sc (nI i + 1).toNatClampNeg) (sc (nI i + 2).toNatClampNeg) sc N w h) (fun v1 w1 h1 => ?_)
  have h1' : EI (f_M_hears w1 (sc (nI i + 1).toNatClampNeg) (sc (nI i + 2).toNatClampNeg)) (fun v' w2 => v' = v1 ∧ Inv sc N w2) := h1
  have z1 := mid h1' (z_f_M_hears ⟨rfl, rfl⟩)
  rw [a83, z1.2, z1.1, grd_i g1, grd_i g2]
  refine Ev.bI h1' (fun v2 w2 h2 => ?_)
  obtain ⟨rfl, h3⟩ := h2
  rw [if_pos rfl]
  exact l_1432 h3 hk
theorem l_728 {sc : Nat → Int32} {N : Nat} (hN : N ≤ 3072) {k18 : MW → Int32 → Option RT} {w : MW} {i : Nat} {P : Option Value → MW → Prop} (h : Inv sc N w) (hi : i + 6 ≤ N) (hk : ∀ w', Inv sc N w' → Ev (k18 w' (nI (i + 6))) P) : Ev (f_L_law_728 k18 FU w (nI i)) P := by
  have zw := inv_zw h
  suffices key : ∀ n, Ev (f_L_law_728 k18 (n + 1) w (nI i)) P from key 999
  intro n
  rw [f_L_law_728]
  refine Ev.bI (sim_fault sc N w h) (fun v1 w1 h1 => ?_)
  have h1' : EI (f_M_fault w1) (fun v' w2 => v' = v1 ∧ Inv sc N w2) := h1
  refine Ev.bI h1' (fun v2 w2 h2 => ?_)
  obtain ⟨rfl, h3⟩ := h2
  rw [if_pos rfl]
  exact l_1432 h3 hk
theorem l_705 {sc : Nat → Int32} {N : Nat} (hN : N ≤ 3072) {k18 : MW → Int32 → Option RT} {w : MW} {i : Nat} {P : Option Value → MW → Prop} (h : Inv sc N w) (hi : i + 6 ≤ N) (hk : ∀ w', Inv sc N w' → Ev (k18 w' (nI (i + 6))) P) : Ev (f_L_law_705 k18 FU w (nI i)) P := by
  have zw := inv_zw h
  have g1 : vpb (nI i + 1) N = true := sx (k := 1) 1 (by decide) (by omega) hN
  suffices key : ∀ n, Ev (f_L_law_705 k18 (n + 1) w (nI i)) P from key 999
  intro n
  rw [f_L_law_705]
  rw [a83, zw.2, zw.1, grd_i g1]
  refine Ev.bI (sim_court (sc (nI i + 1).toNatClampNeg) sc N w h) (fun v1 w1 h1 => ?_)
  have h1' : EI (f_M_court w1 (sc (nI i + 1).toNatClampNeg)) (fun v' w2 => v' = v1 ∧ Inv sc N w2) := h1
  have z1 := mid h1' (z_f_M_court ⟨rfl, rfl⟩)
  rw [a83, z1.2, z1.1, grd_i g1]
  refine Ev.bI h1' (fun v2 w2 h2 => ?_)
  obtain ⟨rfl, h3⟩ := h2
  rw [if_pos rfl]
  exact l_1432 h3 hk
theorem l_682 {sc : Nat → Int32} {N : Nat} (hN : N ≤ 3072) {k18 : MW → Int32 → Option RT} {w : MW} {i : Nat} {P : Option Value → MW → Prop} (h : Inv sc N w) (hi : i + 6 ≤ N) (hk : ∀ w', Inv sc N w' → Ev (k18 w' (nI (i + 6))) P) : Ev (f_L_law_682 k18 FU w (nI i)) P := by
  have zw := inv_zw h
  have g1 : vpb (nI i + 1) N = true := sx (k := 1) 1 (by decide) (by omega) hN
  suffices key : ∀ n, Ev (f_L_law_682 k18 (n + 1) w (nI i)) P from key 999
  intro n
  rw [f_L_law_682]
  rw [a83, zw.2, zw.1, grd_i g1]
  refine Ev.bI (sim_word (sc (nI i + 1).toNatClampNeg) sc N w h) (fun v1 w1 h1 => ?_)
  have h1' : EI (f_M_word w1 (sc (nI i + 1).toNatClampNeg)) (fun v' w2 => v' = v1 ∧ Inv sc N w2) := h1
  have z1 := mid h1' (z_f_M_word ⟨rfl, rfl⟩)
  rw [a83, z1.2, z1.1, grd_i g1]
  refine Ev.bI h1' (fun v2 w2 h2 => ?_)
  obtain ⟨rfl, h3⟩ := h2
  rw [if_pos rfl]
  exact l_1432 h3 hk
theorem l_649 {sc : Nat → Int32} {N : Nat} (hN : N ≤ 3072) {k18 : MW → Int32 → Option RT} {w : MW} {i : Nat} {P : Option Value → MW → Prop} (h : Inv sc N w) (hi : i + 6 ≤ N) (hk : ∀ w', Inv sc N w' → Ev (k18 w' (nI (i + 6))) P) : Ev (f_L_law_649 k18 FU w (nI i)) P := by
  have zw := inv_zw h
  have g1 : vpb (nI i + 1) N = true := sx (k := 1) 1 (by decide) (by omega) hN
  have g2 : vpb (nI i + 2) N = true := sx (k := 2) 2 (by decide) (by omega) hN
  suffices key : ∀ n, Ev (f_L_law_649 k18 (n + 1) w (nI i)) P from key 999
  intro n
  rw [f_L_law_649]
  rw [a83, zw.2, zw.1, grd_i g1, grd_i g2]
  refine Ev.bI (sim_say (sc (nI i + 1).toNatClampNeg) (sc (nI i + 2).toNatClampNeg) sc N w h) (fun v1 w1 h1 => ?_)
  have h1' : EI (f_M_say w1 (sc (nI i + 1).toNatClampNeg) (sc (nI i + 2).toNatClampNeg)) (fun v' w2 => v' = v1 ∧ Inv sc N w2) := h1
  have z1 := mid h1' (z_f_M_say ⟨rfl, rfl⟩)
  rw [a83, z1.2, z1.1, grd_i g1, grd_i g2]
  refine Ev.bI h1' (fun v2 w2 h2 => ?_)
  obtain ⟨rfl, h3⟩ := h2
  rw [if_pos rfl]
  exact l_1432 h3 hk
theorem l_590 {sc : Nat → Int32} {N : Nat} (hN : N ≤ 3072) {k18 : MW → Int32 → Option RT} {w : MW} {i : Nat} {P : Option Value → MW → Prop} (h : Inv sc N w) (hi : i + 6 ≤ N) (hk : ∀ w', Inv sc N w' → Ev (k18 w' (nI (i + 6))) P) : Ev (f_L_law_590 k18 FU w (nI i)) P := by
  have zw := inv_zw h
  have g1 : vpb (nI i + 1) N = true := sx (k := 1) 1 (by decide) (by omega) hN
  have g2 : vpb (nI i + 2) N = true := sx (k := 2) 2 (by decide) (by omega) hN
  have g3 : vpb (nI i + 3) N = true := sx (k := 3) 3 (by decide) (by omega) hN
  suffices key : ∀ n, Ev (f_L_law_590 k18 (n + 1) w (nI i)) P from key 999
  intro n
  rw [f_L_law_590]
  rw [a83, zw.2, zw.1, grd_i g1, grd_i g2, grd_i g3]
  by_cases q : sc (nI i + 3).toNatClampNeg = 0
  · rw [if_pos q]
    refine Ev.bI (sim_meet (sc (nI i + 1).toNatClampNeg) (sc (nI i + 2).toNatClampNeg) 0 (by omega) sc N w h) (fun v1 w1 h1 => ?_)
    have h1' : EI (f_M_meet w1 (sc (nI i + 1).toNatClampNeg) (sc (nI i + 2).toNatClampNeg) (nI 0)) (fun v' w2 => v' = v1 ∧ Inv sc N w2) := h1
    have z1 := mid h1' (z_f_M_meet ⟨rfl, rfl⟩)
    rw [a83, z1.2, z1.1, grd_i g1, grd_i g2, grd_i g3, if_pos q]
    refine Ev.bI h1' (fun v2 w2 h2 => ?_)
    obtain ⟨rfl, h3⟩ := h2
    rw [if_pos rfl]
    exact l_1432 h3 hk
  · rw [if_neg q]
    refine Ev.bI (sim_meet (sc (nI i + 1).toNatClampNeg) (sc (nI i + 2).toNatClampNeg) 1 (by omega) sc N w h) (fun v1 w1 h1 => ?_)
    have h1' : EI (f_M_meet w1 (sc (nI i + 1).toNatClampNeg) (sc (nI i + 2).toNatClampNeg) (nI 1)) (fun v' w2 => v' = v1 ∧ Inv sc N w2) := h1
    have z1 := mid h1' (z_f_M_meet ⟨rfl, rfl⟩)
    rw [a83, z1.2, z1.1, grd_i g1, grd_i g2, grd_i g3, if_neg q]
    refine Ev.bI h1' (fun v2 w2 h2 => ?_)
    obtain ⟨rfl, h3⟩ := h2
    rw [if_pos rfl]
    exact l_1432 h3 hk
theorem l_557 {sc : Nat → Int32} {N : Nat} (hN : N ≤ 3072) {k18 : MW → Int32 → Option RT} {w : MW} {i : Nat} {P : Option Value → MW → Prop} (h : Inv sc N w) (hi : i + 6 ≤ N) (hk : ∀ w', Inv sc N w' → Ev (k18 w' (nI (i + 6))) P) : Ev (f_L_law_557 k18 FU w (nI i)) P := by
  have zw := inv_zw h
  have g1 : vpb (nI i + 1) N = true := sx (k := 1) 1 (by decide) (by omega) hN
  have g2 : vpb (nI i + 2) N = true := sx (k := 2) 2 (by decide) (by omega) hN
  suffices key : ∀ n, Ev (f_L_law_557 k18 (n + 1) w (nI i)) P from key 999
  intro n
  rw [f_L_law_557]
  rw [a83, zw.2, zw.1, grd_i g1, grd_i g2]
  refine Ev.bI (sim_manOf (sc (nI i + 1).toNatClampNeg) (sc (nI i + 2).toNatClampNeg) sc N w h) (fun v1 w1 h1 => ?_)
  have h1' : EI (f_M_manOf w1 (sc (nI i + 1).toNatClampNeg) (sc (nI i + 2).toNatClampNeg)) (fun v' w2 => v' = v1 ∧ Inv sc N w2) := h1
  have z1 := mid h1' (z_f_M_manOf ⟨rfl, rfl⟩)
  rw [a83, z1.2, z1.1, grd_i g1, grd_i g2]
  refine Ev.bI h1' (fun v2 w2 h2 => ?_)
  obtain ⟨rfl, h3⟩ := h2
  rw [if_pos rfl]
  exact l_1432 h3 hk
theorem l_514 {sc : Nat → Int32} {N : Nat} (hN : N ≤ 3072) {k18 : MW → Int32 → Option RT} {w : MW} {i : Nat} {P : Option Value → MW → Prop} (h : Inv sc N w) (hi : i + 6 ≤ N) (hk : ∀ w', Inv sc N w' → Ev (k18 w' (nI (i + 6))) P) : Ev (f_L_law_514 k18 FU w (nI i)) P := by
  have zw := inv_zw h
  have g1 : vpb (nI i + 1) N = true := sx (k := 1) 1 (by decide) (by omega) hN
  have g2 : vpb (nI i + 2) N = true := sx (k := 2) 2 (by decide) (by omega) hN
  have g3 : vpb (nI i + 3) N = true := sx (k := 3) 3 (by decide) (by omega) hN
  suffices key : ∀ n, Ev (f_L_law_514 k18 (n + 1) w (nI i)) P from key 999
  intro n
  rw [f_L_law_514]
  rw [a83, zw.2, zw.1, grd_i g1, grd_i g2, grd_i g3]
  refine Ev.bI (sim_man (sc (nI i + 1).toNatClampNeg) (sc (nI i + 2).toNatClampNeg) (sc (nI i + 3).toNatClampNeg) sc N w h) (fun v1 w1 h1 => ?_)
  have h1' : EI (f_M_man w1 (sc (nI i + 1).toNatClampNeg) (sc (nI i + 2).toNatClampNeg) (sc (nI i + 3).toNatClampNeg)) (fun v' w2 => v' = v1 ∧ Inv sc N w2) := h1
  have z1 := mid h1' (z_f_M_man ⟨rfl, rfl⟩)
  rw [a83, z1.2, z1.1, grd_i g1, grd_i g2, grd_i g3]
  refine Ev.bI h1' (fun v2 w2 h2 => ?_)
  obtain ⟨rfl, h3⟩ := h2
  rw [if_pos rfl]
  exact l_1432 h3 hk
theorem l_481 {sc : Nat → Int32} {N : Nat} (hN : N ≤ 3072) {k18 : MW → Int32 → Option RT} {w : MW} {i : Nat} {P : Option Value → MW → Prop} (h : Inv sc N w) (hi : i + 6 ≤ N) (hk : ∀ w', Inv sc N w' → Ev (k18 w' (nI (i + 6))) P) : Ev (f_L_law_481 k18 FU w (nI i)) P := by
  have zw := inv_zw h
  have g1 : vpb (nI i + 1) N = true := sx (k := 1) 1 (by decide) (by omega) hN
  have g2 : vpb (nI i + 2) N = true := sx (k := 2) 2 (by decide) (by omega) hN
  suffices key : ∀ n, Ev (f_L_law_481 k18 (n + 1) w (nI i)) P from key 999
  intro n
  rw [f_L_law_481]
  rw [a83, zw.2, zw.1, grd_i g1, grd_i g2]
  refine Ev.bI (sim_says (sc (nI i + 1).toNatClampNeg) (sc (nI i + 2).toNatClampNeg) sc N w h) (fun v1 w1 h1 => ?_)
  have h1' : EI (f_M_says w1 (sc (nI i + 1).toNatClampNeg) (sc (nI i + 2).toNatClampNeg)) (fun v' w2 => v' = v1 ∧ Inv sc N w2) := h1
  have z1 := mid h1' (z_f_M_says ⟨rfl, rfl⟩)
  rw [a83, z1.2, z1.1, grd_i g1, grd_i g2]
  refine Ev.bI h1' (fun v2 w2 h2 => ?_)
  obtain ⟨rfl, h3⟩ := h2
  rw [if_pos rfl]
  exact l_1432 h3 hk
theorem l_458 {sc : Nat → Int32} {N : Nat} (hN : N ≤ 3072) {k18 : MW → Int32 → Option RT} {w : MW} {i : Nat} {P : Option Value → MW → Prop} (h : Inv sc N w) (hi : i + 6 ≤ N) (hk : ∀ w', Inv sc N w' → Ev (k18 w' (nI (i + 6))) P) : Ev (f_L_law_458 k18 FU w (nI i)) P := by
  have zw := inv_zw h
  have g1 : vpb (nI i + 1) N = true := sx (k := 1) 1 (by decide) (by omega) hN
  suffices key : ∀ n, Ev (f_L_law_458 k18 (n + 1) w (nI i)) P from key 999
  intro n
  rw [f_L_law_458]
  rw [a83, zw.2, zw.1, grd_i g1]
  refine Ev.bI (sim_holds (sc (nI i + 1).toNatClampNeg) sc N w h) (fun v1 w1 h1 => ?_)
  have h1' : EI (f_M_holds w1 (sc (nI i + 1).toNatClampNeg)) (fun v' w2 => v' = v1 ∧ Inv sc N w2) := h1
  have z1 := mid h1' (z_f_M_holds ⟨rfl, rfl⟩)
  rw [a83, z1.2, z1.1, grd_i g1]
  refine Ev.bI h1' (fun v2 w2 h2 => ?_)
  obtain ⟨rfl, h3⟩ := h2
  rw [if_pos rfl]
  exact l_1432 h3 hk
theorem l_425 {sc : Nat → Int32} {N : Nat} (hN : N ≤ 3072) {k18 : MW → Int32 → Option RT} {w : MW} {i : Nat} {P : Option Value → MW → Prop} (h : Inv sc N w) (hi : i + 6 ≤ N) (hk : ∀ w', Inv sc N w' → Ev (k18 w' (nI (i + 6))) P) : Ev (f_L_law_425 k18 FU w (nI i)) P := by
  have zw := inv_zw h
  have g1 : vpb (nI i + 1) N = true := sx (k := 1) 1 (by decide) (by omega) hN
  have g2 : vpb (nI i + 2) N = true := sx (k := 2) 2 (by decide) (by omega) hN
  suffices key : ∀ n, Ev (f_L_law_425 k18 (n + 1) w (nI i)) P from key 999
  intro n
  rw [f_L_law_425]
  rw [a83, zw.2, zw.1, grd_i g1, grd_i g2]
  refine Ev.bI (sim_show (sc (nI i + 1).toNatClampNeg) (sc (nI i + 2).toNatClampNeg) sc N w h) (fun v1 w1 h1 => ?_)
  have h1' : EI (f_M_show w1 (sc (nI i + 1).toNatClampNeg) (sc (nI i + 2).toNatClampNeg)) (fun v' w2 => v' = v1 ∧ Inv sc N w2) := h1
  have z1 := mid h1' (z_f_M_show ⟨rfl, rfl⟩)
  rw [a83, z1.2, z1.1, grd_i g1, grd_i g2]
  refine Ev.bI h1' (fun v2 w2 h2 => ?_)
  obtain ⟨rfl, h3⟩ := h2
  rw [if_pos rfl]
  exact l_1432 h3 hk
theorem l_391 {sc : Nat → Int32} {N : Nat} (hN : N ≤ 3072) {k18 : MW → Int32 → Option RT} {w : MW} {i : Nat} {P : Option Value → MW → Prop} (h : Inv sc N w) (hi : i + 6 ≤ N) (hk : ∀ w', Inv sc N w' → Ev (k18 w' (nI (i + 6))) P) : Ev (f_L_law_391 k18 FU w (nI i)) P := by
  have zw := inv_zw h
  have g1 : vpb (nI i + 1) N = true := sx (k := 1) 1 (by decide) (by omega) hN
  have g2 : vpb (nI i + 2) N = true := sx (k := 2) 2 (by decide) (by omega) hN
  suffices key : ∀ n, Ev (f_L_law_391 k18 (n + 1) w (nI i)) P from key 999
  intro n
  rw [f_L_law_391]
  rw [a83, zw.2, zw.1, grd_i g1, grd_i g2]
  obtain ⟨v, ex, em⟩ := sim_element (sc (nI i + 1).toNatClampNeg) (sc (nI i + 2).toNatClampNeg) sc N w h
  have ex' : f_X_element w (sc (nI i + 1).toNatClampNeg) (sc (nI i + 2).toNatClampNeg) = some (some (.long v), w) := ex
  have em' : f_M_element w (sc (nI i + 1).toNatClampNeg) (sc (nI i + 2).toNatClampNeg) = some (some (.long v), w) := em
  rw [ex']
  show Ev (grd (vpb (nI i + 1) (aln w 83) = true) _) P
  rw [a83, zw.2, zw.1, grd_i g1, grd_i g2, em']
  show Ev (if lg_cmp v v = 0 then _ else _) P
  rw [if_pos (show lg_cmp v v = 0 by unfold lg_cmp; simp)]
  exact l_1432 h hk
theorem l_328 {sc : Nat → Int32} {N : Nat} (hN : N ≤ 3072) {k18 : MW → Int32 → Option RT} {w : MW} {i : Nat} {P : Option Value → MW → Prop} (h : Inv sc N w) (hi : i + 6 ≤ N) (hk : ∀ w', Inv sc N w' → Ev (k18 w' (nI (i + 6))) P) : Ev (f_L_law_328 k18 FU w (nI i)) P := by
  have zw := inv_zw h
  have g1 : vpb (nI i + 1) N = true := sx (k := 1) 1 (by decide) (by omega) hN
  have g2 : vpb (nI i + 2) N = true := sx (k := 2) 2 (by decide) (by omega) hN
  have g3 : vpb (nI i + 3) N = true := sx (k := 3) 3 (by decide) (by omega) hN
  have g4 : vpb (nI i + 4) N = true := sx (k := 4) 4 (by decide) (by omega) hN
  have g5 : vpb (nI i + 5) N = true := sx (k := 5) 5 (by decide) (by omega) hN
  suffices key : ∀ n, Ev (f_L_law_328 k18 (n + 1) w (nI i)) P from key 999
  intro n
  rw [f_L_law_328]
  rw [a83, zw.2, zw.1, grd_i g1, grd_i g2, grd_i g3, grd_i g4, grd_i g5]
  refine Ev.bI (sim_copy (sc (nI i + 1).toNatClampNeg) (sc (nI i + 2).toNatClampNeg) (sc (nI i + 3).toNatClampNeg) (sc (nI i + 4).toNatClampNeg) (sc (nI i + 5).toNatClampNeg) sc N w h) (fun v1 w1 h1 => ?_)
  have h1' : EI (f_M_copy w1 (sc (nI i + 1).toNatClampNeg) (sc (nI i + 2).toNatClampNeg) (sc (nI i + 3).toNatClampNeg) (sc (nI i + 4).toNatClampNeg) (sc (nI i + 5).toNatClampNeg)) (fun v' w2 => v' = v1 ∧ Inv sc N w2) := h1
  have z1 := mid h1' (z_f_M_copy ⟨rfl, rfl⟩)
  rw [a83, z1.2, z1.1, grd_i g1, grd_i g2, grd_i g3, grd_i g4, grd_i g5]
  refine Ev.bI h1' (fun v2 w2 h2 => ?_)
  obtain ⟨rfl, h3⟩ := h2
  rw [if_pos rfl]
  exact l_1432 h3 hk
theorem l_255 {sc : Nat → Int32} {N : Nat} (hN : N ≤ 3072) {k18 : MW → Int32 → Option RT} {w : MW} {i : Nat} {P : Option Value → MW → Prop} (h : Inv sc N w) (hi : i + 6 ≤ N) (hk : ∀ w', Inv sc N w' → Ev (k18 w' (nI (i + 6))) P) : Ev (f_L_law_255 k18 FU w (nI i)) P := by
  have zw := inv_zw h
  have g1 : vpb (nI i + 1) N = true := sx (k := 1) 1 (by decide) (by omega) hN
  have g2 : vpb (nI i + 2) N = true := sx (k := 2) 2 (by decide) (by omega) hN
  have g3 : vpb (nI i + 3) N = true := sx (k := 3) 3 (by decide) (by omega) hN
  have g4 : vpb (nI i + 4) N = true := sx (k := 4) 4 (by decide) (by omega) hN
  suffices key : ∀ n, Ev (f_L_law_255 k18 (n + 1) w (nI i)) P from key 999
  intro n
  rw [f_L_law_255]
  rw [a83, zw.2, zw.1, grd_i g1, grd_i g2, grd_i g3, grd_i g4]
  refine Ev.bI (sim_set (sc (nI i + 1).toNatClampNeg) (sc (nI i + 2).toNatClampNeg) ((((sc (nI i + 3).toNatClampNeg).toInt64) <<< ((32 : Int32).toInt64 &&& 63)) ||| (((sc (nI i + 4).toNatClampNeg).toInt64) &&& 4294967295)) sc N w h) (fun v1 w1 h1 => ?_)
  have h1' : EI (f_M_set w1 (sc (nI i + 1).toNatClampNeg) (sc (nI i + 2).toNatClampNeg) ((((sc (nI i + 3).toNatClampNeg).toInt64) <<< ((32 : Int32).toInt64 &&& 63)) ||| (((sc (nI i + 4).toNatClampNeg).toInt64) &&& 4294967295))) (fun v' w2 => v' = v1 ∧ Inv sc N w2) := h1
  have z1 := mid h1' (z_f_M_set ⟨rfl, rfl⟩)
  rw [a83, z1.2, z1.1, grd_i g1, grd_i g2, grd_i g3, grd_i g4]
  refine Ev.bI h1' (fun v2 w2 h2 => ?_)
  obtain ⟨rfl, h3⟩ := h2
  rw [if_pos rfl]
  exact l_1432 h3 hk
theorem l_212 {sc : Nat → Int32} {N : Nat} (hN : N ≤ 3072) {k18 : MW → Int32 → Option RT} {w : MW} {i : Nat} {P : Option Value → MW → Prop} (h : Inv sc N w) (hi : i + 6 ≤ N) (hk : ∀ w', Inv sc N w' → Ev (k18 w' (nI (i + 6))) P) : Ev (f_L_law_212 k18 FU w (nI i)) P := by
  have zw := inv_zw h
  have g1 : vpb (nI i + 1) N = true := sx (k := 1) 1 (by decide) (by omega) hN
  have g2 : vpb (nI i + 2) N = true := sx (k := 2) 2 (by decide) (by omega) hN
  have g3 : vpb (nI i + 3) N = true := sx (k := 3) 3 (by decide) (by omega) hN
  suffices key : ∀ n, Ev (f_L_law_212 k18 (n + 1) w (nI i)) P from key 999
  intro n
  rw [f_L_law_212]
  rw [a83, zw.2, zw.1, grd_i g1, grd_i g2, grd_i g3]
  refine Ev.bI (sim_row (sc (nI i + 1).toNatClampNeg) (sc (nI i + 2).toNatClampNeg) (sc (nI i + 3).toNatClampNeg) sc N w h) (fun v1 w1 h1 => ?_)
  have h1' : EI (f_M_row w1 (sc (nI i + 1).toNatClampNeg) (sc (nI i + 2).toNatClampNeg) (sc (nI i + 3).toNatClampNeg)) (fun v' w2 => v' = v1 ∧ Inv sc N w2) := h1
  have z1 := mid h1' (z_f_M_row ⟨rfl, rfl⟩)
  rw [a83, z1.2, z1.1, grd_i g1, grd_i g2, grd_i g3]
  refine Ev.bI h1' (fun v2 w2 h2 => ?_)
  obtain ⟨rfl, h3⟩ := h2
  rw [if_pos rfl]
  exact l_1432 h3 hk
theorem law_loop {sc : Nat → Int32} {N : Nat} (hN : N ≤ 3072) : ∀ (n i : Nat) (w : MW), Inv sc N w → i ≤ N → N + 6 < 6 * n + i → EI (f_L_law_18 n w (nI i)) (fun v _ => v = nI 1) := by
  intro n
  induction n with
  | zero =>
    intro i w h hi hn
    omega
  | succ n ih =>
    intro i w h hi hn
    have zw := inv_zw h
    have hlt : (Int32.ofNat N - 6 < nI i) ↔ N < i + 6 := by
      have e : Int32.ofNat N = nI N := rfl
      have e6 : (6 : Int32) = nI 6 := by decide
      rw [e]
      by_cases z : 6 ≤ N
      · rw [e6, nI_sub' z]
        constructor
        · intro q
          exact Decidable.byContradiction fun y => absurd (nI_le (a := i) (b := N - 6) (by omega) (by omega)) (Int32.not_le.mpr q)
        · intro q
          exact nI_lt (by omega) (by omega)
      · have key : ∀ m, m < 6 → nI m - 6 < 0 := by decide +kernel
        have k1 := Int32.lt_iff_toInt_lt.mp (key N (by omega))
        have k2 := Int32.le_iff_toInt_le.mp (nI_le (a := 0) (b := i) (by omega) (by omega))
        have k3 : (nI 0).toInt = (0 : Int32).toInt := rfl
        exact ⟨fun _ => by omega, fun _ => Int32.lt_iff_toInt_lt.mpr (by omega)⟩
    unfold f_L_law_18
    rw [a83, zw.2, zw.1]
    by_cases c : N < i + 6
    · rw [if_pos (hlt.mpr c)]
      exact Ev.i rfl
    rw [if_neg (fun q => c (hlt.mp q)), grd_i (vpb_n (by omega) (by omega))]
    have hk : ∀ w', Inv sc N w' → Ev ((fun w x3 => f_L_law_18 n w x3) w' (nI (i + 6))) (pI (fun v _ => v = nI 1)) := fun w' h' => ih (i + 6) w' h' (by omega) (by omega)
    refine Ev.ite (fun _ => l_212 hN h (by omega) hk) (fun _ => ?_)
    refine Ev.ite (fun _ => l_255 hN h (by omega) hk) (fun _ => ?_)
    refine Ev.ite (fun _ => l_328 hN h (by omega) hk) (fun _ => ?_)
    refine Ev.ite (fun _ => l_391 hN h (by omega) hk) (fun _ => ?_)
    refine Ev.ite (fun _ => l_425 hN h (by omega) hk) (fun _ => ?_)
    refine Ev.ite (fun _ => l_458 hN h (by omega) hk) (fun _ => ?_)
    refine Ev.ite (fun _ => l_481 hN h (by omega) hk) (fun _ => ?_)
    refine Ev.ite (fun _ => l_514 hN h (by omega) hk) (fun _ => ?_)
    refine Ev.ite (fun _ => l_557 hN h (by omega) hk) (fun _ => ?_)
    refine Ev.ite (fun _ => l_590 hN h (by omega) hk) (fun _ => ?_)
    refine Ev.ite (fun _ => l_649 hN h (by omega) hk) (fun _ => ?_)
    refine Ev.ite (fun _ => l_682 hN h (by omega) hk) (fun _ => ?_)
    refine Ev.ite (fun _ => l_705 hN h (by omega) hk) (fun _ => ?_)
    refine Ev.ite (fun _ => l_728 hN h (by omega) hk) (fun _ => ?_)
    refine Ev.ite (fun _ => l_741 hN h (by omega) hk) (fun _ => ?_)
    refine Ev.ite (fun _ => l_774 hN h (by omega) hk) (fun _ => ?_)
    refine Ev.ite (fun _ => l_807 hN h (by omega) hk) (fun _ => ?_)
    refine Ev.ite (fun _ => l_820 hN h (by omega) hk) (fun _ => ?_)
    refine Ev.ite (fun _ => l_853 hN h (by omega) hk) (fun _ => ?_)
    refine Ev.ite (fun _ => l_876 hN h (by omega) hk) (fun _ => ?_)
    refine Ev.ite (fun _ => l_909 hN h (by omega) hk) (fun _ => ?_)
    refine Ev.ite (fun _ => l_922 hN h (by omega) hk) (fun _ => ?_)
    refine Ev.ite (fun _ => l_945 hN h (by omega) hk) (fun _ => ?_)
    refine Ev.ite (fun _ => l_968 hN h (by omega) hk) (fun _ => ?_)
    refine Ev.ite (fun _ => l_991 hN h (by omega) hk) (fun _ => ?_)
    refine Ev.ite (fun _ => l_1014 hN h (by omega) hk) (fun _ => ?_)
    refine Ev.ite (fun _ => l_1027 hN h (by omega) hk) (fun _ => ?_)
    refine Ev.ite (fun _ => l_1080 hN h (by omega) hk) (fun _ => ?_)
    refine Ev.ite (fun _ => l_1103 hN h (by omega) hk) (fun _ => ?_)
    refine Ev.ite (fun _ => l_1136 hN h (by omega) hk) (fun _ => ?_)
    refine Ev.ite (fun _ => l_1159 hN h (by omega) hk) (fun _ => ?_)
    refine Ev.ite (fun _ => l_1172 hN h (by omega) hk) (fun _ => ?_)
    refine Ev.ite (fun _ => l_1205 hN h (by omega) hk) (fun _ => ?_)
    refine Ev.ite (fun _ => l_1248 hN h (by omega) hk) (fun _ => ?_)
    refine Ev.ite (fun _ => l_1271 hN h (by omega) hk) (fun _ => ?_)
    refine Ev.ite (fun _ => l_1294 hN h (by omega) hk) (fun _ => ?_)
    refine Ev.ite (fun _ => l_1317 hN h (by omega) hk) (fun _ => ?_)
    refine Ev.ite (fun _ => l_1360 hN h (by omega) hk) (fun _ => ?_)
    refine Ev.ite (fun _ => l_1383 hN h (by omega) hk) (fun _ => ?_)
    refine Ev.ite (fun _ => l_1396 hN h (by omega) hk) (fun _ => ?_)
    refine Ev.ite (fun _ => l_1409 hN h (by omega) hk) (fun _ => ?_)
    exact l_1432 h hk
theorem law_all {sc : Nat → Int32} {N : Nat} (hN : N ≤ 3072) {w : MW} (h : Inv sc N w) : EI (f_L_law w) (fun v _ => v = nI 1) := by
  unfold f_L_law
  exact law_loop hN FU 0 w h (by omega) (by unfold FU; omega)
