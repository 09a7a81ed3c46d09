/-! items of a text -/
abbrev CS : Type := Nat × Nat × (Nat → Nat) × (Nat → Nat) × (Nat → Nat) × (Nat → Int32) × (Nat → Int32) × (Nat → Int32) × (Nat → Int32)
def X3 (w : MW) (c : CS) : Prop := RX 23 w c.1 c.2.1 c.2.2.1 c.2.2.2.1 c.2.2.2.2.1 c.2.2.2.2.2.1 c.2.2.2.2.2.2.1 ∧ XC 23 w c.1 c.2.2.2.2.2.2.2.1 c.2.2.2.2.2.2.2.2
def M3 (w : MW) (c : CS) : Prop := RM w c.1 c.2.1 c.2.2.1 c.2.2.2.1 c.2.2.2.2.1 c.2.2.2.2.2.1 c.2.2.2.2.2.2.1 ∧ MB w c.1 c.2.2.2.2.2.2.2.1 c.2.2.2.2.2.2.2.2
def GD (c : CS) : Prop := OK c.1 c.2.1 c.2.2.1 c.2.2.2.1 c.2.2.2.2.1 ∧ OKM c.1 c.2.2.2.2.2.1 ∧ OKS c.2.1 c.2.2.2.2.2.2.1
def addC (c : CS) (k a f : Nat) : CS := (c.1 + 1, c.2.1, upf c.2.2.1 c.1 k, upf c.2.2.2.1 c.1 a, upf c.2.2.2.2.1 c.1 f, upf c.2.2.2.2.2.1 c.1 (nI 0), c.2.2.2.2.2.2.1, upf c.2.2.2.2.2.2.2.1 c.1 (-nI 1), upf c.2.2.2.2.2.2.2.2 c.1 (nI 0))
def lnkC (c : CS) (i j b : Nat) : CS := (c.1, c.2.1, c.2.2.1, c.2.2.2.1, c.2.2.2.2.1, linkV c.2.2.2.2.2.1 i j b, c.2.2.2.2.2.2.1, c.2.2.2.2.2.2.2.1, c.2.2.2.2.2.2.2.2)
def wrdC (c : CS) (v : Nat) : CS := (c.1, c.2.1 + 1, c.2.2.1, c.2.2.2.1, c.2.2.2.2.1, c.2.2.2.2.2.1, upf c.2.2.2.2.2.2.1 c.2.1 (nI v), c.2.2.2.2.2.2.2.1, c.2.2.2.2.2.2.2.2)
def hshC (c : CS) : CS := (c.1, 0, c.2.2)
def manI (g : Nat → Int32) (c : CS) (p : Nat) : Nat × Option CS :=
  if (tkN g 7 p).2 = none then ((tkN g 7 p).1, none)
  else if (tkN g 10 (tkN g 7 p).1).2 = none then ((tkN g 10 (tkN g 7 p).1).1, none)
  else if (tkN g 3 (tkN g 10 (tkN g 7 p).1).1).2 = none then ((tkN g 3 (tkN g 10 (tkN g 7 p).1).1).1, none)
  else ((tkN g 3 (tkN g 10 (tkN g 7 p).1).1).1, some (addC c ((tkN g 7 p).2.getD 0) ((tkN g 10 (tkN g 7 p).1).2.getD 0) ((tkN g 3 (tkN g 10 (tkN g 7 p).1).1).2.getD 0)))
def twoI (g : Nat → Int32) (c : CS) (b p : Nat) : Nat × Option CS :=
  if (tkN g c.1 p).2 = none then ((tkN g c.1 p).1, none)
  else if (tkN g c.1 (tkN g c.1 p).1).2 = none then ((tkN g c.1 (tkN g c.1 p).1).1, none)
  else if (tkN g c.1 p).2.getD 0 = (tkN g c.1 (tkN g c.1 p).1).2.getD 0 then ((tkN g c.1 p).1 + 1, none)
  else ((tkN g c.1 (tkN g c.1 p).1).1, some (lnkC c ((tkN g c.1 p).2.getD 0) ((tkN g c.1 (tkN g c.1 p).1).2.getD 0) b))
def wrdI (g : Nat → Int32) (c : CS) (p : Nat) : Nat × Option CS :=
  if (tkN g 40 p).2 = none then ((tkN g 40 p).1, none) else ((tkN g 40 p).1, some (wrdC c ((tkN g 40 p).2.getD 0)))
def wI (g : Nat → Int32) (a p : Nat) : Nat × Bool := wdN g (TX a) (tLen a) 0 p
def itN (g : Nat → Int32) (c : CS) (p : Nat) : Nat × Option CS :=
  if g p = nI 109 then
    (if g (p + 1) = nI 97 then (if (wI g 84 p).2 = true then (if 8 ≤ c.1 then (p, none) else manI g c (wI g 84 p).1) else ((wI g 84 p).1, none))
     else (if (wI g 85 p).2 = true then twoI g c 1 (wI g 85 p).1 else ((wI g 85 p).1, none)))
  else if g p = nI 112 then (if (wI g 86 p).2 = true then twoI g c 0 (wI g 86 p).1 else ((wI g 86 p).1, none))
  else if g p = nI 119 then (if (wI g 87 p).2 = true then (if 30 ≤ c.2.1 then (p, none) else wrdI g c (wI g 87 p).1) else ((wI g 87 p).1, none))
  else (if (wI g 88 p).2 = true then ((wI g 88 p).1, some (hshC c)) else ((wI g 88 p).1, none))
/-- what an item of the class comes to -/
def XI (w w' : MW) (r : Nat × Option CS) : Prop := FX w w' ∧ w'.1 23 4 = w.1 23 4 ∧ ((∃ c, r.2 = some c ∧ w'.1 52 3 = -nI 1 ∧ w'.1 52 1 = nI r.1 ∧ X3 w' c) ∨ (r.2 = none ∧ r.1 ≤ 160 ∧ w'.1 52 3 = nI r.1))
theorem RDF.fx {w w' : MW} (h : RDF w w') : FX w w' := ⟨fun a q1 q2 => h.1 a (by omega), h.2⟩
theorem RCx.fx {w w' : MW} {s len : Nat} {E : Nat → Int32} (h : RCx w s len E) (f : FX w w') : RCx w' s len E := by
  obtain ⟨h1, h2, h3, h4⟩ := h
  exact ⟨h1, h2, by rw [f.1 _ (by omega) (by omega)]; exact h3, by rw [f.2]; exact h4⟩
theorem X3.rdf {w w' : MW} {c : CS} (h : X3 w c) (f : RDF w w') (hn : c.1 ≤ 8) : X3 w' c := by
  obtain ⟨⟨r1, r2, r3, r4⟩, x⟩ := h
  refine ⟨⟨by rw [f.1 23 (by omega)]; exact r1, by rw [f.1 23 (by omega)]; exact r2, fun i hi => by rw [f.1 (23 + 2 + i) (by omega)]; exact r3 i hi, fun p hp => by rw [f.1 (23 + 10) (by omega)]; exact r4 p hp⟩, fun i hi => by rw [f.1 (23 + 2 + i) (by omega)]; exact x i hi⟩
theorem CF.fx {w w' : MW} (h : CF 23 w w') : FX w w' := ⟨fun a q1 q2 => by funext j; exact h.1 a j (by omega), h.2⟩
theorem XI.fail {w w' : MW} {q : Nat} {c : Option CS} (f : RDF w w') (hq : q ≤ 160) (e : w'.1 52 3 = nI q) (hc : c = none) : XI w w' (q, c) := ⟨f.fx, by rw [f.1 23 (by omega)], .inr ⟨hc, hq, e⟩⟩
theorem X_man {w : MW} {s len p : Nat} {E : Nat → Int32} {c : CS} (h : RCx w s len E) (x : X3 w c) (gd : GD c) (hn : c.1 < 8) (hp : p ≤ len) (e : w.1 52 1 = nI p) (e3 : w.1 52 3 = -nI 1) :
    EV (f_Rd_readMan w (35 + 2 * s)) (fun w' => XI w w' (manI (sg E len) c p)) := by
  have hl := h.2.1
  unfold f_Rd_readMan manI
  refine Ev.bI (X_num h hp e e3 (b := 7) (by omega)) (fun v1 w1 h1 => ?_)
  obtain ⟨f1, n1⟩ := h1
  obtain ⟨t1, t2, t3⟩ := tkN_le (E := E) (len := len) (b := 7) hp
  generalize hr1 : tkN (sg E len) 7 p = r1 at *
  rcases n1 with ⟨k, a1, a2, rfl, a3, a4, a5, a6⟩ | ⟨a1, a2, a3⟩
  case inr =>
    show Ev (bI (f_Rd_takeNumber w1 (35 + 2 * s) (10 : Int32)) _) _
    rw [X_num0 a3 a2, bI_k, X_num0 a3 a2, bI_k]
    have hne : ¬ w1.1 52 3 = (-1 : Int32) := by rw [a3]; exact nI_ne_m1 (by omega)
    rw [if_neg hne, if_pos a1]
    exact Ev.v (XI.fail f1 a2 a3 rfl)
  have h1 := h.rf f1
  refine Ev.bI (X_num h1 t2 a4 a3 (b := 10) (by omega)) (fun v2 w2 h2 => ?_)
  obtain ⟨f2, n2⟩ := h2
  obtain ⟨u1, u2, u3⟩ := tkN_le (E := E) (len := len) (b := 10) t2
  generalize hr2 : tkN (sg E len) 10 r1.1 = r2 at *
  rcases n2 with ⟨a, b1, b2, rfl, b3, b4, b5, b6⟩ | ⟨b1, b2, b3⟩
  case inr =>
    rw [X_num0 b3 b2, bI_k]
    have hne : ¬ w2.1 52 3 = (-1 : Int32) := by rw [b3]; exact nI_ne_m1 (by omega)
    rw [if_neg hne, if_neg (by rw [a1]; simp), if_pos b1]
    exact Ev.v (XI.fail (f1.tr f2) b2 b3 rfl)
  have h2 := h1.rf f2
  refine Ev.bI (X_num h2 u2 b4 b3 (b := 3) (by omega)) (fun v3 w3 h3 => ?_)
  obtain ⟨f3, n3⟩ := h3
  obtain ⟨s1, s2, s3⟩ := tkN_le (E := E) (len := len) (b := 3) u2
  generalize hr3 : tkN (sg E len) 3 r2.1 = r3 at *
  have f123 := (f1.tr f2).tr f3
  rcases n3 with ⟨f, c1, c2, rfl, c3, c4, c5, c6⟩ | ⟨c1, c2, c3⟩
  case inr =>
    have hne : ¬ w3.1 52 3 = (-1 : Int32) := by rw [c3]; exact nI_ne_m1 (by omega)
    rw [if_neg hne, if_neg (by rw [a1]; simp), if_neg (by rw [b1]; simp), if_pos c1]
    exact Ev.v (XI.fail f123 c2 c3 rfl)
  have x3 := x.rdf f123 (by omega)
  have hk : w3.1 52 3 = (-1 : Int32) := c3
  have g1 := x3.1.1
  rw [if_pos hk, if_neg (by rw [a1]; simp), if_neg (by rw [b1]; simp), if_neg (by rw [c1]; simp), grd_i (fun _ => by rw [g1]; exact vpb_n hn (by omega)), a1, b1, c1]
  obtain ⟨y1, y2, y3, y4⟩ := X_addMan x3.1 x3.2 hn k a f
  refine Ev.v ⟨f123.fx.tr y4.fx, by rw [y3, f123.1 23 (by omega)], .inl ⟨_, rfl, ?_, ?_, y1, y2⟩⟩
  · rw [y4.1 52 3 (by omega)]
    exact c3
  · rw [y4.1 52 1 (by omega)]
    exact c4
theorem X_two {w : MW} {s len p b : Nat} {E : Nat → Int32} {c : CS} (h : RCx w s len E) (x : X3 w c) (gd : GD c) (hb : b < 2) (hp : p ≤ len) (e : w.1 52 1 = nI p) (e3 : w.1 52 3 = -nI 1) :
    EV (f_Rd_readMeeting w (35 + 2 * s) (nI b)) (fun w' => XI w w' (twoI (sg E len) c b p)) := by
  have hl := h.2.1
  have hn := gd.1.1
  unfold f_Rd_readMeeting twoI
  rw [x.1.1]
  refine Ev.bI (X_num h hp e e3 (b := c.1) (by omega)) (fun v1 w1 h1 => ?_)
  obtain ⟨f1, n1⟩ := h1
  obtain ⟨t1, t2, t3⟩ := tkN_le (E := E) (len := len) (b := c.1) hp
  have x1 := x.rdf f1 hn
  rw [x1.1.1]
  generalize hr1 : tkN (sg E len) c.1 p = r1 at *
  rcases n1 with ⟨i, a1, a2, rfl, a3, a4, a5, a6⟩ | ⟨a1, a2, a3⟩
  case inr =>
    rw [X_num0 a3 a2, bI_k]
    have hne : ¬ w1.1 52 3 = (-1 : Int32) := by rw [a3]; exact nI_ne_m1 (by omega)
    rw [if_neg hne, if_pos a1]
    exact Ev.v (XI.fail f1 a2 a3 rfl)
  have h1 := h.rf f1
  refine Ev.bI (X_num h1 t2 a4 a3 (b := c.1) (by omega)) (fun v2 w2 h2 => ?_)
  obtain ⟨f2, n2⟩ := h2
  obtain ⟨u1, u2, u3⟩ := tkN_le (E := E) (len := len) (b := c.1) t2
  generalize hr2 : tkN (sg E len) c.1 r1.1 = r2 at *
  have f12 := f1.tr f2
  rcases n2 with ⟨j, b1, b2, rfl, b3, b4, b5, b6⟩ | ⟨b1, b2, b3⟩
  case inr =>
    have hne : ¬ w2.1 52 3 = (-1 : Int32) := by rw [b3]; exact nI_ne_m1 (by omega)
    rw [if_neg hne, if_neg (by rw [a1]; simp), if_pos b1]
    exact Ev.v (XI.fail f12 b2 b3 rfl)
  have x2 := x.rdf f12 hn
  have hk : w2.1 52 3 = (-1 : Int32) := b3
  have hi := t3 i a1
  have hj := u3 j b1
  have na : ¬ r1.2 = none := by rw [a1]; simp
  have nb : ¬ r2.2 = none := by rw [b1]; simp
  rw [if_pos hk, if_neg na, if_neg nb, a1, b1]
  by_cases q : i = j
  · subst q
    rw [if_pos rfl, if_pos rfl, b5]
    have hlen : r1.1 + 1 ≤ 160 := by
      by_cases z : r1.1 + 1 ≤ 160
      · exact z
      · exfalso
        have : r1.1 = len := by omega
        rw [← hr2, this] at b1
        unfold tkN at b1
        rw [sg_out (Nat.le_refl _), if_neg (fun z => nI_ne_m1 (by omega) z.symm)] at b1
        cases b1
    exact Ev.v (XI.fail f12.set hlen rd_s rfl)
  · have qn : ¬ nI i = nI j := fun z => q ((nI_eq (by omega) (by omega)).mp z)
    have m1 : v_Ct_isMan w2 23 (nI i) = nI 1 := man_g x2.1.1 hi (by omega)
    rw [if_neg qn, if_neg (show ¬ (some i).getD 0 = (some j).getD 0 from q)]
    rw [grd_i (fun _ _ _ => vpb_n (by omega) (by omega)), grd_i (fun _ _ _ => vpb_n (by omega) (by omega)), grd_i (fun _ _ _ => vpb_n (by omega) (by omega)), grd_i (fun _ _ _ => vpb_n (by omega) (by omega))]
    obtain ⟨y1, y2, y3, y4⟩ := X_link (b := b) x2.1 x2.2 hn hi hj q hb
    refine Ev.v ⟨f12.fx.tr y4.fx, by rw [y3, f12.1 23 (by omega)], .inl ⟨_, rfl, ?_, ?_, y1, y2⟩⟩
    · rw [y4.1 52 3 (by omega)]
      exact b3
    · rw [y4.1 52 1 (by omega)]
      exact b4
theorem X_addWord {w : MW} {c : CS} (x : X3 w c) (hn : c.1 ≤ 8) (hL : c.2.1 < 30) (v : Nat) : X3 (u_Ct_addWord w 23 (nI v)) (wrdC c v) ∧ (u_Ct_addWord w 23 (nI v)).1 23 4 = w.1 23 4 ∧ CF 23 w (u_Ct_addWord w 23 (nI v)) := by
  obtain ⟨⟨r1, r2, r3, r4⟩, x2⟩ := x
  unfold u_Ct_addWord
  have h30 : nI c.2.1 < (30 : Int32) := nI_lt (a := c.2.1) (b := 30) hL (by omega)
  rw [r2, if_pos h30, nI_clamp (by omega), rd_o (by omega), r2, nI_1]
  refine ⟨⟨⟨by rw [rd_j (by omega), rd_o (by omega)]; exact r1, by rw [rd_s]; rfl, fun i hi => ?_, fun p hp => ?_⟩, fun i hi => ?_⟩, by rw [rd_j (by omega), rd_o (by omega)], ((CF.rfl w).set (by omega)).set (by omega)⟩
  · have hi' : i < c.1 := hi
    rw [rd_o (by omega), rd_o (by omega)]
    exact r3 i hi
  · rw [rd_o (by omega)]
    show _ = upf c.2.2.2.2.2.2.1 c.2.1 (nI v) p
    by_cases e : p = c.2.1
    · subst e
      rw [rd_s, upf_s]
    · rw [rd_j e, upf_o e]
      have hp' : p < c.2.1 + 1 := hp
      exact r4 p (by omega)
  · have hi' : i < c.1 := hi
    rw [rd_o (by omega), rd_o (by omega)]
    exact x2 i hi
theorem X_wrd {w : MW} {s len p : Nat} {E : Nat → Int32} {c : CS} (h : RCx w s len E) (x : X3 w c) (gd : GD c) (hL : c.2.1 < 30) (hp : p ≤ len) (e : w.1 52 1 = nI p) (e3 : w.1 52 3 = -nI 1) :
    EV (f_Rd_readWord w (35 + 2 * s)) (fun w' => XI w w' (wrdI (sg E len) c p)) := by
  have hl := h.2.1
  have hn := gd.1.1
  unfold f_Rd_readWord wrdI
  refine Ev.bI (X_num h hp e e3 (b := 40) (by omega)) (fun v1 w1 h1 => ?_)
  obtain ⟨f1, n1⟩ := h1
  generalize hr1 : tkN (sg E len) 40 p = r1 at *
  rcases n1 with ⟨k, a1, a2, rfl, a3, a4, a5, a6⟩ | ⟨a1, a2, a3⟩
  case inr =>
    have hne : ¬ w1.1 52 3 = (-1 : Int32) := by rw [a3]; exact nI_ne_m1 (by omega)
    rw [if_neg hne, if_pos a1]
    exact Ev.v (XI.fail f1 a2 a3 rfl)
  have x1 := x.rdf f1 hn
  have hk : w1.1 52 3 = (-1 : Int32) := a3
  have g1 := x1.1.2.1
  rw [if_pos hk, if_neg (by rw [a1]; simp), grd_i (fun _ => by rw [g1]; exact vpb_n hL (by omega)), a1]
  obtain ⟨y1, y2, y3⟩ := X_addWord x1 hn hL k
  refine Ev.v ⟨f1.fx.tr y3.fx, by rw [y2, f1.1 23 (by omega)], .inl ⟨_, rfl, ?_, ?_, y1⟩⟩
  · rw [y3.1 52 3 (by omega)]
    exact a3
  · rw [y3.1 52 1 (by omega)]
    exact a4
