/-! SIM: lines, forests: whole numbers alone -/
theorem g_sq {c : Int} (h : c ≠ 0) : 0 < c * c := by
  rcases Int.lt_trichotomy c 0 with hc | hc | hc
  · exact Int.mul_pos_of_neg_of_neg hc hc
  · exact absurd hc h
  · exact Int.mul_pos hc hc
theorem g_sg {c e z w : Int} (hc : 0 < c) (he : 0 < e) (h : c * z = e * w) : (0 < z ↔ 0 < w) ∧ (z < 0 ↔ w < 0) ∧ (z = 0 ↔ w = 0) := by
  have key : ∀ k x : Int, 0 < k → (x < 0 ∧ k * x < 0) ∨ (x = 0 ∧ k * x = 0) ∨ (0 < x ∧ 0 < k * x) := by
    intro k x hk
    rcases Int.lt_trichotomy x 0 with hx | hx | hx
    · exact Or.inl ⟨hx, Int.mul_neg_of_pos_of_neg hk hx⟩
    · exact Or.inr (Or.inl ⟨hx, by rw [hx, Int.mul_zero]⟩)
    · exact Or.inr (Or.inr ⟨hx, Int.mul_pos hk hx⟩)
  have h1 := key c z hc
  have h2 := key e w he
  rw [h] at h1
  omega
/-- signs of a product -/
theorem g_pr (a b : Int) : (0 < a * b ∧ (0 < a ∧ 0 < b ∨ a < 0 ∧ b < 0)) ∨ (a * b = 0 ∧ (a = 0 ∨ b = 0)) ∨ (a * b < 0 ∧ (a < 0 ∧ 0 < b ∨ 0 < a ∧ b < 0)) := by
  rcases Int.lt_trichotomy a 0 with ha | ha | ha
  · rcases Int.lt_trichotomy b 0 with hb | hb | hb
    · exact Or.inl ⟨Int.mul_pos_of_neg_of_neg ha hb, Or.inr ⟨ha, hb⟩⟩
    · exact Or.inr (Or.inl ⟨by rw [hb, Int.mul_zero], Or.inr hb⟩)
    · exact Or.inr (Or.inr ⟨Int.mul_neg_of_neg_of_pos ha hb, Or.inl ⟨ha, hb⟩⟩)
  · exact Or.inr (Or.inl ⟨by rw [ha, Int.zero_mul], Or.inl ha⟩)
  · rcases Int.lt_trichotomy b 0 with hb | hb | hb
    · exact Or.inr (Or.inr ⟨Int.mul_neg_of_pos_of_neg ha hb, Or.inr ⟨ha, hb⟩⟩)
    · exact Or.inr (Or.inl ⟨by rw [hb, Int.mul_zero], Or.inr hb⟩)
    · exact Or.inl ⟨Int.mul_pos ha hb, Or.inl ⟨ha, hb⟩⟩
def g_side (ax ay bx by_ cx cy : Int) : Int := (bx - ax) * (cy - ay) - (by_ - ay) * (cx - ax)
def g_btw (a v b : Int) : Bool := decide (a < b ∧ a ≤ v ∧ v ≤ b ∨ ¬ a < b ∧ b ≤ v ∧ v ≤ a)
def g_unl (a b : Int) : Bool := decide (a < 0 ∧ 0 < b ∨ 0 < a ∧ b < 0)
def g_on (px py tx ty x y : Int) : Bool := decide (¬ (x = px ∧ y = py ∨ x = tx ∧ y = ty) ∧ g_side px py tx ty x y = 0) && g_btw px x tx && g_btw py y ty
def g_stop (px py tx ty ax ay bx by_ : Int) : Bool := g_on px py tx ty ax ay || g_on px py tx ty bx by_ || (if g_side px py tx ty ax ay = 0 ∧ g_side px py tx ty bx by_ = 0 then g_btw ax px bx && g_btw ay py by_ && g_btw ax tx bx && g_btw ay ty by_ else g_unl (g_side px py tx ty ax ay) (g_side px py tx ty bx by_) && g_unl (g_side ax ay bx by_ px py) (g_side ax ay bx by_ tx ty))
theorem g_unl_i (a b : Int) : g_unl a b = true ↔ a * b < 0 := by
  have := g_pr a b
  unfold g_unl
  rw [decide_eq_true_iff]
  omega
theorem g_btw_i (a v b : Int) : g_btw a v b = true ↔ 0 ≤ (v - a) * (b - v) := by
  have := g_pr (v - a) (b - v)
  unfold g_btw
  rw [decide_eq_true_iff]
  omega

theorem g_pos (p a T : Int) : 0 < (a - p) * (T - a) ↔ (p < a ∧ a < T) ∨ (T < a ∧ a < p) := by
  have := g_pr (a - p) (T - a)
  omega
theorem g_nn (a p b : Int) : 0 ≤ (p - a) * (b - p) ↔ (a ≤ p ∧ p ≤ b) ∨ (b ≤ p ∧ p ≤ a) := by
  have := g_pr (p - a) (b - p)
  omega
theorem g_neg (p a T : Int) : (p - a) * (T - a) < 0 ↔ 0 < (a - p) * (T - a) := by
  have e : (p - a) * (T - a) = - ((a - p) * (T - a)) := by grind
  rw [e]; omega
theorem g_lin (p T a b : Int) (h : T ≠ p) : (((p < a ∧ a < T) ∨ (T < a ∧ a < p)) ∨ ((p < b ∧ b < T) ∨ (T < b ∧ b < p)) ∨ (((a ≤ p ∧ p ≤ b) ∨ (b ≤ p ∧ p ≤ a)) ∧ ((a ≤ T ∧ T ≤ b) ∨ (b ≤ T ∧ T ≤ a)))) ↔ ((a < p ∨ a < T) ∨ (b < p ∨ b < T)) ∧ ((p < a ∨ T < a) ∨ (p < b ∨ T < b)) := by
  constructor
  · intro z; omega
  · intro z; omega
theorem g_imp {d e u u' v v' z z' : Int} (hd : d ≠ 0) (i1 : d * (v' - u') = e * (v - u)) (i2 : d * (z' - v') = e * (z - v)) (i3 : 0 ≤ (v - u) * (z - v)) : 0 ≤ (v' - u') * (z' - v') := by
  have e1 : d * d * ((v' - u') * (z' - v')) = e * e * ((v - u) * (z - v)) := by grind
  have p1 := g_sq hd
  have p0 : 0 ≤ e * e := by
    rcases Int.lt_trichotomy e 0 with h | h | h
    · exact Int.le_of_lt (g_sq (by omega))
    · rw [h]; decide
    · exact Int.le_of_lt (g_sq (by omega))
  have p2 : 0 ≤ e * e * ((v - u) * (z - v)) := Int.mul_nonneg p0 i3
  rw [← e1] at p2
  rcases Int.lt_or_le ((v' - u') * (z' - v')) 0 with h | h
  · exact absurd (Int.mul_neg_of_pos_of_neg p1 h) (Int.not_lt.mpr p2)
  · exact h

section AXx
variable {dx dy px py X Y a1 a2 b1 b2 : Int}
theorem g_z_x (hd : dx ≠ 0) (hD : (X - px) * dy = (Y - py) * dx) (hx : X ≠ px) : g_side px py X Y a1 a2 = 0 ↔ dx * (a2 - Y) - dy * (a1 - X) = 0 := by
  have e : dx * g_side px py X Y a1 a2 = (X - px) * (dx * (a2 - Y) - dy * (a1 - X)) := by unfold g_side; grind
  constructor
  · intro h
    rw [h, Int.mul_zero] at e
    rcases Int.mul_eq_zero.mp e.symm with h | h
    · omega
    · exact h
  · intro h
    rw [h, Int.mul_zero] at e
    rcases Int.mul_eq_zero.mp e with h | h
    · exact absurd h hd
    · exact h
theorem g_on_x (hd : dx ≠ 0) (hD : (X - px) * dy = (Y - py) * dx) (hx : X ≠ px) : g_on px py X Y a1 a2 = true ↔ dx * (a2 - Y) - dy * (a1 - X) = 0 ∧ 0 < (a1 - px) * (X - a1) := by
  unfold g_on
  rw [Bool.and_eq_true, Bool.and_eq_true, decide_eq_true_iff, g_z_x hd hD hx, g_btw_i, g_btw_i]
  constructor
  · rintro ⟨⟨⟨h1, h2⟩, h3⟩, h4⟩
    refine ⟨h2, ?_⟩
    have e1 : dx * (a2 - py) = dy * (a1 - px) := by grind
    have e2 : dx * (a2 - Y) = dy * (a1 - X) := by grind
    have n1 : ¬ a1 = px := by
      intro z
      rw [z, Int.sub_self, Int.mul_zero] at e1
      rcases Int.mul_eq_zero.mp e1 with h | h
      · exact hd h
      · exact h1 (Or.inl (by omega))
    have n2 : ¬ a1 = X := by
      intro z
      rw [z, Int.sub_self, Int.mul_zero] at e2
      rcases Int.mul_eq_zero.mp e2 with h | h
      · exact hd h
      · exact h1 (Or.inr (by omega))
    have := g_pr (a1 - px) (X - a1)
    omega
  · rintro ⟨h2, h3⟩
    have h4 : 0 ≤ (a2 - py) * (Y - a2) := g_imp hd (e := dy) (u := px) (v := a1) (z := X) (by grind) (by grind) (Int.le_of_lt h3)
    have s := (g_pos _ _ _).mp h3
    exact ⟨⟨⟨by omega, h2⟩, Int.le_of_lt h3⟩, h4⟩
/-- the forest as the class asks -/
theorem g_ax0_x (hd : dx ≠ 0) (hD : (X - px) * dy = (Y - py) * dx) (hx : X ≠ px) (h1 : dx * (a2 - Y) - dy * (a1 - X) = 0) (h2 : dx * (b2 - Y) - dy * (b1 - X) = 0) : g_stop px py X Y a1 a2 b1 b2 = true ↔ ((a1 < px ∨ a1 < X) ∨ (b1 < px ∨ b1 < X)) ∧ ((px < a1 ∨ X < a1) ∨ (px < b1 ∨ X < b1)) := by
  have zA := (g_z_x (a1 := a1) (a2 := a2) hd hD hx).mpr h1
  have zB := (g_z_x (a1 := b1) (a2 := b2) hd hD hx).mpr h2
  have oA := g_on_x (a1 := a1) (a2 := a2) hd hD hx
  have oB := g_on_x (a1 := b1) (a2 := b2) hd hD hx
  rw [g_pos] at oA oB
  have i1 : 0 ≤ (px - a1) * (b1 - px) → 0 ≤ (py - a2) * (b2 - py) := g_imp hd (e := dy) (by grind) (by grind)
  have i2 : 0 ≤ (X - a1) * (b1 - X) → 0 ≤ (Y - a2) * (b2 - Y) := g_imp hd (e := dy) (by grind) (by grind)
  rw [← g_lin px X a1 b1 hx]
  unfold g_stop
  rw [Bool.or_eq_true, Bool.or_eq_true, oA, oB, if_pos ⟨zA, zB⟩, Bool.and_eq_true, Bool.and_eq_true, Bool.and_eq_true, g_btw_i, g_btw_i, g_btw_i, g_btw_i]
  constructor
  · rintro ((⟨_, h⟩ | ⟨_, h⟩) | h)
    · exact Or.inl h
    · exact Or.inr (Or.inl h)
    · exact Or.inr (Or.inr ⟨(g_nn _ _ _).mp h.1.1.1, (g_nn _ _ _).mp h.1.2⟩)
  · rintro (h | h | ⟨h3, h4⟩)
    · exact Or.inl (Or.inl ⟨h1, h⟩)
    · exact Or.inl (Or.inr ⟨h2, h⟩)
    · have k1 := (g_nn _ _ _).mpr h3
      have k2 := (g_nn _ _ _).mpr h4
      have k3 := i1 k1
      have k4 := i2 k2
      exact Or.inr ⟨⟨⟨k1, k3⟩, k2⟩, k4⟩
theorem g_ax1_x (hd : dx ≠ 0) (hD : (X - px) * dy = (Y - py) * dx) (hx : X ≠ px) (h0 : ¬ (dx * (a2 - Y) - dy * (a1 - X) = 0 ∧ dx * (b2 - Y) - dy * (b1 - X) = 0)) : g_stop px py X Y a1 a2 b1 b2 = true ↔ ¬ 0 < (dx * (a2 - Y) - dy * (a1 - X)) * (dx * (b2 - Y) - dy * (b1 - X)) ∧ g_side a1 a2 b1 b2 px py * g_side a1 a2 b1 b2 X Y < 0 := by
  obtain ⟨sA, hA⟩ : ∃ sA, sA = dx * (a2 - Y) - dy * (a1 - X) := ⟨_, rfl⟩
  obtain ⟨sB, hB⟩ : ∃ sB, sB = dx * (b2 - Y) - dy * (b1 - X) := ⟨_, rfl⟩
  have zA := g_z_x (a1 := a1) (a2 := a2) hd hD hx
  have zB := g_z_x (a1 := b1) (a2 := b2) hd hD hx
  have oA := g_on_x (a1 := a1) (a2 := a2) hd hD hx
  have oB := g_on_x (a1 := b1) (a2 := b2) hd hD hx
  rw [← hA, ← hB] at h0 ⊢
  rw [← hA] at zA oA
  rw [← hB] at zB oB
  have eAB : dx * dx * (g_side px py X Y a1 a2 * g_side px py X Y b1 b2) = (X - px) * (X - px) * (sA * sB) := by
    have e1 : dx * g_side px py X Y a1 a2 = (X - px) * sA := by unfold g_side; grind
    have e2 : dx * g_side px py X Y b1 b2 = (X - px) * sB := by unfold g_side; grind
    grind
  have sAB := g_sg (g_sq hd) (g_sq (show X - px ≠ 0 by omega)) eAB
  have wA : sA = 0 → dx * dx * (g_side a1 a2 b1 b2 px py * g_side a1 a2 b1 b2 X Y) = sB * sB * ((px - a1) * (X - a1)) := by
    intro z
    have e1 : dx * g_side a1 a2 b1 b2 px py = - ((px - a1) * sB) := by unfold g_side; grind
    have e2 : dx * g_side a1 a2 b1 b2 X Y = - ((X - a1) * sB) := by unfold g_side; grind
    grind
  have wB : sB = 0 → dx * dx * (g_side a1 a2 b1 b2 px py * g_side a1 a2 b1 b2 X Y) = sA * sA * ((px - b1) * (X - b1)) := by
    intro z
    have e1 : dx * g_side a1 a2 b1 b2 px py = (px - b1) * sA := by unfold g_side; grind
    have e2 : dx * g_side a1 a2 b1 b2 X Y = (X - b1) * sA := by unfold g_side; grind
    grind
  unfold g_stop
  rw [Bool.or_eq_true, Bool.or_eq_true, oA, oB, if_neg (fun z => h0 ⟨zA.mp z.1, zB.mp z.2⟩), Bool.and_eq_true, g_unl_i, g_unl_i]
  by_cases hA0 : sA = 0
  · have hB0 : sB ≠ 0 := fun z => h0 ⟨hA0, z⟩
    have w := (g_sg (g_sq hd) (g_sq hB0) (wA hA0)).2.1
    rw [g_neg] at w
    have z0 : sA * sB = 0 := by rw [hA0, Int.zero_mul]
    constructor
    · rintro ((⟨_, h⟩ | ⟨h, _⟩) | ⟨h, _⟩)
      · exact ⟨by rw [z0]; decide, w.mpr h⟩
      · exact absurd h hB0
      · have := sAB.2.1.mp h
        rw [z0] at this
        exact absurd this (by decide)
    · rintro ⟨_, h⟩
      exact Or.inl (Or.inl ⟨hA0, w.mp h⟩)
  · by_cases hB0 : sB = 0
    · have w := (g_sg (g_sq hd) (g_sq hA0) (wB hB0)).2.1
      rw [g_neg] at w
      have z0 : sA * sB = 0 := by rw [hB0, Int.mul_zero]
      constructor
      · rintro ((⟨h, _⟩ | ⟨_, h⟩) | ⟨h, _⟩)
        · exact absurd h hA0
        · exact ⟨by rw [z0]; decide, w.mpr h⟩
        · have := sAB.2.1.mp h
          rw [z0] at this
          exact absurd this (by decide)
      · rintro ⟨_, h⟩
        exact Or.inl (Or.inr ⟨hB0, w.mp h⟩)
    · constructor
      · rintro ((⟨h, _⟩ | ⟨h, _⟩) | ⟨h, h2⟩)
        · exact absurd h hA0
        · exact absurd h hB0
        · exact ⟨Int.not_lt.mpr (Int.le_of_lt (sAB.2.1.mp h)), h2⟩
      · rintro ⟨h1, h2⟩
        refine Or.inr ⟨sAB.2.1.mpr ?_, h2⟩
        rcases g_pr sA sB with h | h | h
        · exact absurd h.1 h1
        · rcases h.2 with h | h
          · exact absurd h hA0
          · exact absurd h hB0
        · exact h.1
end AXx

section AXy
variable {dx dy px py X Y a1 a2 b1 b2 : Int}
theorem g_z_y (hd : dy ≠ 0) (hD : (X - px) * dy = (Y - py) * dx) (hx : Y ≠ py) : g_side px py X Y a1 a2 = 0 ↔ dx * (a2 - Y) - dy * (a1 - X) = 0 := by
  have e : dy * g_side px py X Y a1 a2 = (Y - py) * (dx * (a2 - Y) - dy * (a1 - X)) := by unfold g_side; grind
  constructor
  · intro h
    rw [h, Int.mul_zero] at e
    rcases Int.mul_eq_zero.mp e.symm with h | h
    · omega
    · exact h
  · intro h
    rw [h, Int.mul_zero] at e
    rcases Int.mul_eq_zero.mp e with h | h
    · exact absurd h hd
    · exact h
theorem g_on_y (hd : dy ≠ 0) (hD : (X - px) * dy = (Y - py) * dx) (hx : Y ≠ py) : g_on px py X Y a1 a2 = true ↔ dx * (a2 - Y) - dy * (a1 - X) = 0 ∧ 0 < (a2 - py) * (Y - a2) := by
  unfold g_on
  rw [Bool.and_eq_true, Bool.and_eq_true, decide_eq_true_iff, g_z_y hd hD hx, g_btw_i, g_btw_i]
  constructor
  · rintro ⟨⟨⟨h1, h2⟩, h3⟩, h4⟩
    refine ⟨h2, ?_⟩
    have e1 : dy * (a1 - px) = dx * (a2 - py) := by grind
    have e2 : dy * (a1 - X) = dx * (a2 - Y) := by grind
    have n1 : ¬ a2 = py := by
      intro z
      rw [z, Int.sub_self, Int.mul_zero] at e1
      rcases Int.mul_eq_zero.mp e1 with h | h
      · exact hd h
      · exact h1 (Or.inl (by omega))
    have n2 : ¬ a2 = Y := by
      intro z
      rw [z, Int.sub_self, Int.mul_zero] at e2
      rcases Int.mul_eq_zero.mp e2 with h | h
      · exact hd h
      · exact h1 (Or.inr (by omega))
    have := g_pr (a2 - py) (Y - a2)
    omega
  · rintro ⟨h2, h3⟩
    have h4 : 0 ≤ (a1 - px) * (X - a1) := g_imp hd (e := dx) (u := py) (v := a2) (z := Y) (by grind) (by grind) (Int.le_of_lt h3)
    have s := (g_pos _ _ _).mp h3
    exact ⟨⟨⟨by omega, h2⟩, h4⟩, Int.le_of_lt h3⟩
/-- the forest as the class asks -/
theorem g_ax0_y (hd : dy ≠ 0) (hD : (X - px) * dy = (Y - py) * dx) (hx : Y ≠ py) (h1 : dx * (a2 - Y) - dy * (a1 - X) = 0) (h2 : dx * (b2 - Y) - dy * (b1 - X) = 0) : g_stop px py X Y a1 a2 b1 b2 = true ↔ ((a2 < py ∨ a2 < Y) ∨ (b2 < py ∨ b2 < Y)) ∧ ((py < a2 ∨ Y < a2) ∨ (py < b2 ∨ Y < b2)) := by
  have zA := (g_z_y (a1 := a1) (a2 := a2) hd hD hx).mpr h1
  have zB := (g_z_y (a1 := b1) (a2 := b2) hd hD hx).mpr h2
  have oA := g_on_y (a1 := a1) (a2 := a2) hd hD hx
  have oB := g_on_y (a1 := b1) (a2 := b2) hd hD hx
  rw [g_pos] at oA oB
  have i1 : 0 ≤ (py - a2) * (b2 - py) → 0 ≤ (px - a1) * (b1 - px) := g_imp hd (e := dx) (by grind) (by grind)
  have i2 : 0 ≤ (Y - a2) * (b2 - Y) → 0 ≤ (X - a1) * (b1 - X) := g_imp hd (e := dx) (by grind) (by grind)
  rw [← g_lin py Y a2 b2 hx]
  unfold g_stop
  rw [Bool.or_eq_true, Bool.or_eq_true, oA, oB, if_pos ⟨zA, zB⟩, Bool.and_eq_true, Bool.and_eq_true, Bool.and_eq_true, g_btw_i, g_btw_i, g_btw_i, g_btw_i]
  constructor
  · rintro ((⟨_, h⟩ | ⟨_, h⟩) | h)
    · exact Or.inl h
    · exact Or.inr (Or.inl h)
    · exact Or.inr (Or.inr ⟨(g_nn _ _ _).mp h.1.1.2, (g_nn _ _ _).mp h.2⟩)
  · rintro (h | h | ⟨h3, h4⟩)
    · exact Or.inl (Or.inl ⟨h1, h⟩)
    · exact Or.inl (Or.inr ⟨h2, h⟩)
    · have k1 := (g_nn _ _ _).mpr h3
      have k2 := (g_nn _ _ _).mpr h4
      have k3 := i1 k1
      have k4 := i2 k2
      exact Or.inr ⟨⟨⟨k3, k1⟩, k4⟩, k2⟩
theorem g_ax1_y (hd : dy ≠ 0) (hD : (X - px) * dy = (Y - py) * dx) (hx : Y ≠ py) (h0 : ¬ (dx * (a2 - Y) - dy * (a1 - X) = 0 ∧ dx * (b2 - Y) - dy * (b1 - X) = 0)) : g_stop px py X Y a1 a2 b1 b2 = true ↔ ¬ 0 < (dx * (a2 - Y) - dy * (a1 - X)) * (dx * (b2 - Y) - dy * (b1 - X)) ∧ g_side a1 a2 b1 b2 px py * g_side a1 a2 b1 b2 X Y < 0 := by
  obtain ⟨sA, hA⟩ : ∃ sA, sA = dx * (a2 - Y) - dy * (a1 - X) := ⟨_, rfl⟩
  obtain ⟨sB, hB⟩ : ∃ sB, sB = dx * (b2 - Y) - dy * (b1 - X) := ⟨_, rfl⟩
  have zA := g_z_y (a1 := a1) (a2 := a2) hd hD hx
  have zB := g_z_y (a1 := b1) (a2 := b2) hd hD hx
  have oA := g_on_y (a1 := a1) (a2 := a2) hd hD hx
  have oB := g_on_y (a1 := b1) (a2 := b2) hd hD hx
  rw [← hA, ← hB] at h0 ⊢
  rw [← hA] at zA oA
  rw [← hB] at zB oB
  have eAB : dy * dy * (g_side px py X Y a1 a2 * g_side px py X Y b1 b2) = (Y - py) * (Y - py) * (sA * sB) := by
    have e1 : dy * g_side px py X Y a1 a2 = (Y - py) * sA := by unfold g_side; grind
    have e2 : dy * g_side px py X Y b1 b2 = (Y - py) * sB := by unfold g_side; grind
    grind
  have sAB := g_sg (g_sq hd) (g_sq (show Y - py ≠ 0 by omega)) eAB
  have wA : sA = 0 → dy * dy * (g_side a1 a2 b1 b2 px py * g_side a1 a2 b1 b2 X Y) = sB * sB * ((py - a2) * (Y - a2)) := by
    intro z
    have e1 : dy * g_side a1 a2 b1 b2 px py = - ((py - a2) * sB) := by unfold g_side; grind
    have e2 : dy * g_side a1 a2 b1 b2 X Y = - ((Y - a2) * sB) := by unfold g_side; grind
    grind
  have wB : sB = 0 → dy * dy * (g_side a1 a2 b1 b2 px py * g_side a1 a2 b1 b2 X Y) = sA * sA * ((py - b2) * (Y - b2)) := by
    intro z
    have e1 : dy * g_side a1 a2 b1 b2 px py = (py - b2) * sA := by unfold g_side; grind
    have e2 : dy * g_side a1 a2 b1 b2 X Y = (Y - b2) * sA := by unfold g_side; grind
    grind
  unfold g_stop
  rw [Bool.or_eq_true, Bool.or_eq_true, oA, oB, if_neg (fun z => h0 ⟨zA.mp z.1, zB.mp z.2⟩), Bool.and_eq_true, g_unl_i, g_unl_i]
  by_cases hA0 : sA = 0
  · have hB0 : sB ≠ 0 := fun z => h0 ⟨hA0, z⟩
    have w := (g_sg (g_sq hd) (g_sq hB0) (wA hA0)).2.1
    rw [g_neg] at w
    have z0 : sA * sB = 0 := by rw [hA0, Int.zero_mul]
    constructor
    · rintro ((⟨_, h⟩ | ⟨h, _⟩) | ⟨h, _⟩)
      · exact ⟨by rw [z0]; decide, w.mpr h⟩
      · exact absurd h hB0
      · have := sAB.2.1.mp h
        rw [z0] at this
        exact absurd this (by decide)
    · rintro ⟨_, h⟩
      exact Or.inl (Or.inl ⟨hA0, w.mp h⟩)
  · by_cases hB0 : sB = 0
    · have w := (g_sg (g_sq hd) (g_sq hA0) (wB hB0)).2.1
      rw [g_neg] at w
      have z0 : sA * sB = 0 := by rw [hB0, Int.mul_zero]
      constructor
      · rintro ((⟨h, _⟩ | ⟨_, h⟩) | ⟨h, _⟩)
        · exact absurd h hA0
        · exact ⟨by rw [z0]; decide, w.mpr h⟩
        · have := sAB.2.1.mp h
          rw [z0] at this
          exact absurd this (by decide)
      · rintro ⟨_, h⟩
        exact Or.inl (Or.inr ⟨hB0, w.mp h⟩)
    · constructor
      · rintro ((⟨h, _⟩ | ⟨h, _⟩) | ⟨h, h2⟩)
        · exact absurd h hA0
        · exact absurd h hB0
        · exact ⟨Int.not_lt.mpr (Int.le_of_lt (sAB.2.1.mp h)), h2⟩
      · rintro ⟨h1, h2⟩
        refine Or.inr ⟨sAB.2.1.mpr ?_, h2⟩
        rcases g_pr sA sB with h | h | h
        · exact absurd h.1 h1
        · rcases h.2 with h | h
          · exact absurd h hA0
          · exact absurd h hB0
        · exact h.1
end AXy
