/-! the readings of a court's text -/
theorem wdN_len {g : Nat → Int32} {c : Nat → Nat} : ∀ (m i p : Nat), (wdN g c m i p).2 = true → (wdN g c m i p).1 = p + m := by
  intro m
  induction m with
  | zero => intro i p _; rfl
  | succ m ih =>
    intro i p h
    unfold wdN at h ⊢
    by_cases q : g p = nI (c i)
    · rw [if_pos q] at h ⊢
      rw [ih _ _ h]
      omega
    · rw [if_neg q] at h
      cases h
theorem wI_gt {g : Nat → Int32} {a p : Nat} (ha : 84 ≤ a) (ha2 : a < 89) (h : (wI g a p).2 = true) : p < (wI g a p).1 := by
  unfold wI at h ⊢
  rw [wdN_len _ _ _ h]
  rcases (show a = 84 ∨ a = 85 ∨ a = 86 ∨ a = 87 ∨ a = 88 by omega) with rfl | rfl | rfl | rfl | rfl
  · show p < p + 3
    omega
  · show p < p + 4
    omega
  · show p < p + 4
    omega
  · show p < p + 4
    omega
  · show p < p + 4
    omega
theorem nn_some {o : Option Nat} (h : ¬ o = none) : ∃ u, o = some u := by
  cases o with
  | none => exact absurd rfl h
  | some u => exact ⟨u, rfl⟩
theorem manI_ok {E : Nat → Int32} {len p q : Nat} {c c' : CS} (gd : GD c) (hn : c.1 < 8) (hp : p ≤ len) (h : manI (sg E len) c p = (q, some c')) : p ≤ q ∧ q ≤ len ∧ GD c' := by
  obtain ⟨t1, t2, t3⟩ := tkN_le (E := E) (len := len) (b := 7) hp
  obtain ⟨u1, u2, u3⟩ := tkN_le (E := E) (len := len) (b := 10) t2
  obtain ⟨s1, s2, s3⟩ := tkN_le (E := E) (len := len) (b := 3) u2
  unfold manI at h
  by_cases c1 : (tkN (sg E len) 7 p).2 = none
  · rw [if_pos c1] at h
    cases h
  rw [if_neg c1] at h
  by_cases c2 : (tkN (sg E len) 10 (tkN (sg E len) 7 p).1).2 = none
  · rw [if_pos c2] at h
    cases h
  rw [if_neg c2] at h
  by_cases c3 : (tkN (sg E len) 3 (tkN (sg E len) 10 (tkN (sg E len) 7 p).1).1).2 = none
  · rw [if_pos c3] at h
    cases h
  rw [if_neg c3] at h
  obtain ⟨k, hk⟩ := nn_some c1
  obtain ⟨a, ha⟩ := nn_some c2
  obtain ⟨f, hf⟩ := nn_some c3
  rw [hk, ha, hf] at h
  cases h
  exact ⟨by omega, s2, gd.1.up hn (t3 k hk) (u3 a ha) (s3 f hf), gd.2.1.up, gd.2.2⟩
theorem twoI_ok {E : Nat → Int32} {len p q b : Nat} {c c' : CS} (gd : GD c) (hp : p ≤ len) (h : twoI (sg E len) c b p = (q, some c')) : p ≤ q ∧ q ≤ len ∧ GD c' := by
  obtain ⟨t1, t2, t3⟩ := tkN_le (E := E) (len := len) (b := c.1) hp
  obtain ⟨u1, u2, u3⟩ := tkN_le (E := E) (len := len) (b := c.1) t2
  unfold twoI at h
  by_cases c1 : (tkN (sg E len) c.1 p).2 = none
  · rw [if_pos c1] at h
    cases h
  rw [if_neg c1] at h
  by_cases c2 : (tkN (sg E len) c.1 (tkN (sg E len) c.1 p).1).2 = none
  · rw [if_pos c2] at h
    cases h
  rw [if_neg c2] at h
  obtain ⟨i, hi⟩ := nn_some c1
  obtain ⟨j, hj⟩ := nn_some c2
  rw [hi, hj] at h
  by_cases c3 : i = j
  · rw [if_pos (show (some i).getD 0 = (some j).getD 0 from c3)] at h
    cases h
  rw [if_neg (show ¬ (some i).getD 0 = (some j).getD 0 from c3)] at h
  cases h
  exact ⟨by omega, u2, gd.1, gd.2.1.link gd.1.1 (t3 i hi) (u3 j hj) c3, gd.2.2⟩
theorem wrdI_ok {E : Nat → Int32} {len p q : Nat} {c c' : CS} (gd : GD c) (hL : c.2.1 < 30) (hp : p ≤ len) (h : wrdI (sg E len) c p = (q, some c')) : p ≤ q ∧ q ≤ len ∧ GD c' := by
  obtain ⟨t1, t2, t3⟩ := tkN_le (E := E) (len := len) (b := 40) hp
  unfold wrdI at h
  by_cases c1 : (tkN (sg E len) 40 p).2 = none
  · rw [if_pos c1] at h
    cases h
  rw [if_neg c1] at h
  obtain ⟨v, hv⟩ := nn_some c1
  rw [hv] at h
  cases h
  refine ⟨by omega, t2, ⟨gd.1.1, hL, gd.1.2.2⟩, gd.2.1, fun i hi => ?_⟩
  have hi' : i < c.2.1 + 1 := hi
  show ∃ z, z < 40 ∧ upf c.2.2.2.2.2.2.1 c.2.1 (nI v) i = nI z
  unfold upf
  by_cases z : i = c.2.1
  · rw [if_pos z]
    exact ⟨v, t3 v hv, rfl⟩
  · rw [if_neg z]
    exact gd.2.2 i (by omega)
theorem itN_ok {E : Nat → Int32} {len p q : Nat} {c c' : CS} (gd : GD c) (hp : p ≤ len) (h : itN (sg E len) c p = (q, some c')) : p < q ∧ q ≤ len ∧ GD c' := by
  have w1 := fun a => wI_le (E := E) (a := a) hp
  unfold itN at h
  by_cases c1 : sg E len p = nI 109
  · rw [if_pos c1] at h
    by_cases c2 : sg E len (p + 1) = nI 97
    · rw [if_pos c2] at h
      by_cases c3 : (wI (sg E len) 84 p).2 = true
      · rw [if_pos c3] at h
        by_cases c4 : 8 ≤ c.1
        · rw [if_pos c4] at h
          cases h
        rw [if_neg c4] at h
        have := wI_gt (by omega) (by omega) c3
        obtain ⟨h1, h2, h3⟩ := manI_ok gd (by omega) (w1 84).2 h
        exact ⟨by omega, h2, h3⟩
      · rw [if_neg c3] at h
        cases h
    · rw [if_neg c2] at h
      by_cases c3 : (wI (sg E len) 85 p).2 = true
      · rw [if_pos c3] at h
        have := wI_gt (by omega) (by omega) c3
        obtain ⟨h1, h2, h3⟩ := twoI_ok gd (w1 85).2 h
        exact ⟨by omega, h2, h3⟩
      · rw [if_neg c3] at h
        cases h
  rw [if_neg c1] at h
  by_cases c2 : sg E len p = nI 112
  · rw [if_pos c2] at h
    by_cases c3 : (wI (sg E len) 86 p).2 = true
    · rw [if_pos c3] at h
      have := wI_gt (by omega) (by omega) c3
      obtain ⟨h1, h2, h3⟩ := twoI_ok gd (w1 86).2 h
      exact ⟨by omega, h2, h3⟩
    · rw [if_neg c3] at h
      cases h
  rw [if_neg c2] at h
  by_cases c4 : sg E len p = nI 119
  · rw [if_pos c4] at h
    by_cases c3 : (wI (sg E len) 87 p).2 = true
    · rw [if_pos c3] at h
      by_cases c5 : 30 ≤ c.2.1
      · rw [if_pos c5] at h
        cases h
      rw [if_neg c5] at h
      have := wI_gt (by omega) (by omega) c3
      obtain ⟨h1, h2, h3⟩ := wrdI_ok gd (by omega) (w1 87).2 h
      exact ⟨by omega, h2, h3⟩
    · rw [if_neg c3] at h
      cases h
  rw [if_neg c4] at h
  by_cases c3 : (wI (sg E len) 88 p).2 = true
  · rw [if_pos c3] at h
    have := wI_gt (by omega) (by omega) c3
    have e2 := (w1 88).2
    cases h
    exact ⟨this, e2, ⟨gd.1.1, Nat.zero_le _, gd.1.2.2⟩, gd.2.1, fun i hi => by have : i < 0 := hi; omega⟩
  · rw [if_neg c3] at h
    cases h
def crN (g : Nat → Int32) (len : Nat) : Nat → CS → Nat → Nat → Nat × Option CS
  | 0, _, _, _ => (0, none)
  | m + 1, c, p, k => if (itN g c p).2 = none then ((itN g c p).1, none) else if (itN g c p).1 = len then (k + 1, some ((itN g c p).2.getD c)) else if g (itN g c p).1 = nI 59 then crN g len m ((itN g c p).2.getD c) ((itN g c p).1 + 1) (k + 1) else ((itN g c p).1, none)
