/-! SIM: the forest as the class asks; nearer and further -/
def g_ovl (p t a b : Int) : Bool := decide (((a < p ∨ a < t) ∨ (b < p ∨ b < t)) ∧ ((p < a ∨ t < a) ∨ (p < b ∨ t < b)))
def g_two (a b : Int) : Bool := decide (0 < a ∧ 0 < b ∨ a < 0 ∧ b < 0)
def g_cut (ax ay bx by_ px py q tx ty dx dy : Int) : Bool := if g_two (dx * (ay - ty) - dy * (ax - tx)) (dx * (by_ - ty) - dy * (bx - tx)) = true then false else if dx * (ay - ty) - dy * (ax - tx) = 0 ∧ dx * (by_ - ty) - dy * (bx - tx) = 0 then (if dx = 0 then g_ovl py (ty * q) (ay * q) (by_ * q) else g_ovl px (tx * q) (ax * q) (bx * q)) else g_unl ((bx - ax) * (py - ay * q) - (by_ - ay) * (px - ax * q)) ((bx - ax) * (ty - ay) - (by_ - ay) * (tx - ax))
theorem g_two_i (a b : Int) : g_two a b = true ↔ 0 < a * b := by
  have := g_pr a b
  unfold g_two
  rw [decide_eq_true_iff]
  omega
theorem g_q2 {q a b : Int} (hq : 0 < q) : (0 < (q * a) * (q * b) ↔ 0 < a * b) ∧ (q * a = 0 ↔ a = 0) := by
  have e : 1 * ((q * a) * (q * b)) = q * q * (a * b) := by grind
  have e2 : 1 * (q * a) = q * a := by grind
  exact ⟨(g_sg (by decide) (g_sq (by omega)) e).1, (g_sg (by decide) hq e2).2.2⟩
theorem g_cut_i {ax ay bx by_ px py q tx ty dx dy : Int} (hq : 0 < q) (hd : ¬ (dx = 0 ∧ dy = 0)) (hD : (tx * q - px) * dy = (ty * q - py) * dx) (ht : ¬ (tx * q = px ∧ ty * q = py)) : g_stop px py (tx * q) (ty * q) (ax * q) (ay * q) (bx * q) (by_ * q) = g_cut ax ay bx by_ px py q tx ty dx dy := by
  rw [Bool.eq_iff_iff]
  obtain ⟨sA, hA⟩ : ∃ sA, sA = dx * (ay - ty) - dy * (ax - tx) := ⟨_, rfl⟩
  obtain ⟨sB, hB⟩ : ∃ sB, sB = dx * (by_ - ty) - dy * (bx - tx) := ⟨_, rfl⟩
  have eA : dx * (ay * q - ty * q) - dy * (ax * q - tx * q) = q * sA := by rw [hA]; grind
  have eB : dx * (by_ * q - ty * q) - dy * (bx * q - tx * q) = q * sB := by rw [hB]; grind
  have eP : g_side (ax * q) (ay * q) (bx * q) (by_ * q) px py = q * ((bx - ax) * (py - ay * q) - (by_ - ay) * (px - ax * q)) := by unfold g_side; grind
  have eT : g_side (ax * q) (ay * q) (bx * q) (by_ * q) (tx * q) (ty * q) = q * (q * ((bx - ax) * (ty - ay) - (by_ - ay) * (tx - ax))) := by unfold g_side; grind
  have two := g_two_i sA sB
  have unl := g_unl_i ((bx - ax) * (py - ay * q) - (by_ - ay) * (px - ax * q)) ((bx - ax) * (ty - ay) - (by_ - ay) * (tx - ax))
  have zA := (g_q2 (a := sA) (b := 0) hq).2
  have zB := (g_q2 (a := sB) (b := 0) hq).2
  have pAB := (g_q2 (a := sA) (b := sB) hq).1
  have pPT : ∀ a b : Int, (q * a) * (q * (q * b)) < 0 ↔ a * b < 0 := by
    intro a b
    have e : 1 * ((q * a) * (q * (q * b))) = (q * q) * q * (a * b) := by grind
    exact (g_sg (by decide) (Int.mul_pos (g_sq (by omega)) hq) e).2.1
  unfold g_cut
  rw [← hA, ← hB]
  by_cases hdx : dx = 0
  · have hdy : dy ≠ 0 := fun z => hd ⟨hdx, z⟩
    have hx : ty * q ≠ py := by
      intro z
      rw [hdx, Int.mul_zero] at hD
      rcases Int.mul_eq_zero.mp hD with h | h
      · exact ht ⟨by omega, z⟩
      · exact hdy h
    by_cases h0 : sA = 0 ∧ sB = 0
    · rw [g_ax0_y hdy hD hx (by rw [eA]; exact zA.mpr h0.1) (by rw [eB]; exact zB.mpr h0.2), if_neg (by rw [two, h0.1, Int.zero_mul]; decide), if_pos h0, if_pos hdx]
      unfold g_ovl
      rw [decide_eq_true_iff]
    · rw [g_ax1_y hdy hD hx (by rw [eA, eB, zA, zB]; exact h0), eA, eB, eP, eT, pAB, pPT]
      by_cases h1 : g_two sA sB = true
      · rw [if_pos h1]
        constructor
        · rintro ⟨h, _⟩; exact absurd (two.mp h1) h
        · intro h; exact absurd h (by decide)
      · rw [if_neg h1, if_neg h0, unl]
        exact ⟨fun h => h.2, fun h => ⟨fun z => h1 (two.mpr z), h⟩⟩
  · have hx : tx * q ≠ px := by
      intro z
      rw [z, Int.sub_self, Int.zero_mul] at hD
      rcases Int.mul_eq_zero.mp hD.symm with h | h
      · exact ht ⟨z, by omega⟩
      · exact hdx h
    by_cases h0 : sA = 0 ∧ sB = 0
    · rw [g_ax0_x hdx hD hx (by rw [eA]; exact zA.mpr h0.1) (by rw [eB]; exact zB.mpr h0.2), if_neg (by rw [two, h0.1, Int.zero_mul]; decide), if_pos h0, if_neg hdx]
      unfold g_ovl
      rw [decide_eq_true_iff]
    · rw [g_ax1_x hdx hD hx (by rw [eA, eB, zA, zB]; exact h0), eA, eB, eP, eT, pAB, pPT]
      by_cases h1 : g_two sA sB = true
      · rw [if_pos h1]
        constructor
        · rintro ⟨h, _⟩; exact absurd (two.mp h1) h
        · intro h; exact absurd h (by decide)
      · rw [if_neg h1, if_neg h0, unl]
        exact ⟨fun h => h.2, fun h => ⟨fun z => h1 (two.mpr z), h⟩⟩
theorem g_ovl_nf {p t u a b : Int} (h : (p < u ∧ u < t) ∨ (t < u ∧ u < p)) (h1 : g_ovl p u a b = true) : g_ovl p t a b = true := by
  unfold g_ovl at h1 ⊢
  rw [decide_eq_true_iff] at h1 ⊢
  omega
/-- an affine function along a line: of three in a row -/
theorem g_aff {p u t fp fu ft : Int} (h : (p < u ∧ u < t) ∨ (t < u ∧ u < p)) (e : (t - p) * fu = (t - u) * fp + (u - p) * ft) : (0 < fp → fu < 0 → ft < 0) ∧ (fp < 0 → 0 < fu → 0 < ft) := by
  rcases h with ⟨h1, h2⟩ | ⟨h1, h2⟩
  · constructor
    · intro a b
      have k1 := Int.mul_neg_of_pos_of_neg (show 0 < t - p by omega) b
      have k2 := Int.mul_pos (show 0 < t - u by omega) a
      rcases Int.lt_or_le ft 0 with z | z
      · exact z
      · have := Int.mul_nonneg (show 0 ≤ u - p by omega) z
        omega
    · intro a b
      have k1 := Int.mul_pos (show 0 < t - p by omega) b
      have k2 := Int.mul_neg_of_pos_of_neg (show 0 < t - u by omega) a
      rcases Int.lt_or_le 0 ft with z | z
      · exact z
      · have : (u - p) * ft ≤ 0 := Int.mul_nonpos_of_nonneg_of_nonpos (show 0 ≤ u - p by omega) z
        omega
  · constructor
    · intro a b
      have k1 := Int.mul_pos_of_neg_of_neg (show t - p < 0 by omega) b
      have k2 := Int.mul_neg_of_neg_of_pos (show t - u < 0 by omega) a
      rcases Int.lt_or_le ft 0 with z | z
      · exact z
      · have : (u - p) * ft ≤ 0 := Int.mul_nonpos_of_nonpos_of_nonneg (show u - p ≤ 0 by omega) z
        omega
    · intro a b
      have k1 := Int.mul_neg_of_neg_of_pos (show t - p < 0 by omega) b
      have k2 := Int.mul_pos_of_neg_of_neg (show t - u < 0 by omega) a
      rcases Int.lt_or_le 0 ft with z | z
      · exact z
      · have := Int.mul_nonneg_of_nonpos_of_nonpos (show u - p ≤ 0 by omega) z
        omega
theorem g_af1 {ax ay bx by_ px py q tx ty ux uy dx dy : Int} (hD : (tx * q - px) * dy = (ty * q - py) * dx) (hU : (ux * q - px) * dy = (uy * q - py) * dx) : dx * ((tx * q - px) * (q * ((bx - ax) * (uy - ay) - (by_ - ay) * (ux - ax))) - ((tx * q - ux * q) * ((bx - ax) * (py - ay * q) - (by_ - ay) * (px - ax * q)) + (ux * q - px) * (q * ((bx - ax) * (ty - ay) - (by_ - ay) * (tx - ax))))) = 0 := by grind
theorem g_nf {ax ay bx by_ px py q tx ty ux uy dx dy : Int} (hq : 0 < q) (hd : ¬ (dx = 0 ∧ dy = 0)) (hD : (tx * q - px) * dy = (ty * q - py) * dx) (hU : (ux * q - px) * dy = (uy * q - py) * dx) (hx : dx ≠ 0 → (px < ux * q ∧ ux * q < tx * q) ∨ (tx * q < ux * q ∧ ux * q < px)) (hy : dx = 0 → (py < uy * q ∧ uy * q < ty * q) ∨ (ty * q < uy * q ∧ uy * q < py)) (h : g_cut ax ay bx by_ px py q ux uy dx dy = true) : g_cut ax ay bx by_ px py q tx ty dx dy = true := by
  have e0 : q * (dx * (ty - uy) - dy * (tx - ux)) = 0 := by grind
  have e0 : dx * (ty - uy) - dy * (tx - ux) = 0 := by
    rcases Int.mul_eq_zero.mp e0 with z | z
    · omega
    · exact z
  have eA : dx * (ay - uy) - dy * (ax - ux) = dx * (ay - ty) - dy * (ax - tx) := by grind
  have eB : dx * (by_ - uy) - dy * (bx - ux) = dx * (by_ - ty) - dy * (bx - tx) := by grind
  unfold g_cut at h ⊢
  rw [eA, eB] at h
  by_cases h1 : g_two (dx * (ay - ty) - dy * (ax - tx)) (dx * (by_ - ty) - dy * (bx - tx)) = true
  · rw [if_pos h1] at h; exact absurd h (by decide)
  rw [if_neg h1] at h ⊢
  by_cases h0 : dx * (ay - ty) - dy * (ax - tx) = 0 ∧ dx * (by_ - ty) - dy * (bx - tx) = 0
  · rw [if_pos h0] at h ⊢
    by_cases hdx : dx = 0
    · rw [if_pos hdx] at h ⊢
      exact g_ovl_nf (hy hdx) h
    · rw [if_neg hdx] at h ⊢
      exact g_ovl_nf (hx hdx) h
  · rw [if_neg h0] at h ⊢
    unfold g_unl at h ⊢
    rw [decide_eq_true_iff] at h ⊢
    obtain ⟨fp, hp⟩ : ∃ f, f = (bx - ax) * (py - ay * q) - (by_ - ay) * (px - ax * q) := ⟨_, rfl⟩
    obtain ⟨fu, hu⟩ : ∃ f, f = (bx - ax) * (uy - ay) - (by_ - ay) * (ux - ax) := ⟨_, rfl⟩
    obtain ⟨ft, ht⟩ : ∃ f, f = (bx - ax) * (ty - ay) - (by_ - ay) * (tx - ax) := ⟨_, rfl⟩
    rw [← hp, ← hu] at h
    rw [← hp, ← ht]
    have key : (0 < fp → q * fu < 0 → q * ft < 0) ∧ (fp < 0 → 0 < q * fu → 0 < q * ft) := by
      by_cases hdx : dx = 0
      · have hdy : dy ≠ 0 := fun z => hd ⟨hdx, z⟩
        refine g_aff (hy hdx) ?_
        have e : dy * ((ty * q - py) * (q * fu) - ((ty * q - uy * q) * fp + (uy * q - py) * (q * ft))) = 0 := by rw [hp, hu, ht]; grind
        rcases Int.mul_eq_zero.mp e with z | z
        · exact absurd z hdy
        · omega
      · refine g_aff (hx hdx) ?_
        have e : dx * ((tx * q - px) * (q * fu) - ((tx * q - ux * q) * fp + (ux * q - px) * (q * ft))) = 0 := by rw [hp, hu, ht]; exact g_af1 hD hU
        rcases Int.mul_eq_zero.mp e with z | z
        · exact absurd z hdx
        · omega
    have s1 := g_sg (z := q * fu) (w := fu) (c := 1) (e := q) (by decide) hq (by grind)
    have s2 := g_sg (z := q * ft) (w := ft) (c := 1) (e := q) (by decide) hq (by grind)
    rw [s1.2.1, s2.2.1, s1.1, s2.1] at key
    rcases h with ⟨z1, z2⟩ | ⟨z1, z2⟩
    · exact Or.inl ⟨z1, key.2 z1 z2⟩
    · exact Or.inr ⟨z1, key.1 z1 z2⟩
/-! two from a point -/
def g_beh (sx sy tx ty px py q : Int) : Bool := decide ((sx * q - px) * (ty * q - py) - (sy * q - py) * (tx * q - px) = 0 ∧ 0 < (sx * q - px) * (tx * q - px) + (sy * q - py) * (ty * q - py))
def g_far (tx ty px py q : Int) : Int := (tx * q - px) * (tx * q - px) + (ty * q - py) * (ty * q - py)
def g_sgn (a b : Int) : Bool := decide (¬ a = 0 ∧ ¬ b = 0 ∧ (0 < a ↔ 0 < b))
def g_abs (a : Int) : Int := if 0 ≤ a then a else 0 - a
theorem g_sgn_i (a b : Int) : g_sgn a b = true ↔ 0 < a * b := by
  have := g_pr a b
  unfold g_sgn
  rw [decide_eq_true_iff]
  omega
theorem g_abs_i (a b : Int) : a * a < b * b ↔ g_abs a < g_abs b := by
  have h : ∀ x y : Int, 0 ≤ x → 0 ≤ y → (x * x < y * y ↔ x < y) := by
    intro x y hx hy
    constructor
    · intro z
      rcases Int.lt_or_le x y with w | w
      · exact w
      · have := Int.mul_le_mul w w hy hx
        omega
    · intro z
      rcases Int.lt_or_le x 1 with w | w
      · have e : x = 0 := by omega
        rw [e, Int.zero_mul]
        exact Int.mul_pos (by omega) (by omega)
      · have k1 := Int.mul_lt_mul_of_pos_right z (show 0 < x by omega)
        have k2 := Int.mul_lt_mul_of_pos_left z (show 0 < y by omega)
        have k3 : y * x = x * y := Int.mul_comm _ _
        omega
  unfold g_abs
  by_cases ha : 0 ≤ a
  · rw [if_pos ha]
    by_cases hb : 0 ≤ b
    · rw [if_pos hb]; exact h a b ha hb
    · rw [if_neg hb, ← h a (0 - b) ha (by omega), show (0 - b) * (0 - b) = b * b by grind]
  · rw [if_neg ha]
    by_cases hb : 0 ≤ b
    · rw [if_pos hb, ← h (0 - a) b (by omega) hb, show (0 - a) * (0 - a) = a * a by grind]
    · rw [if_neg hb, ← h (0 - a) (0 - b) (by omega) (by omega), show (0 - a) * (0 - a) = a * a by grind, show (0 - b) * (0 - b) = b * b by grind]
theorem g_ax2 {d e u1 u2 v1 v2 : Int} (hd : d ≠ 0) (hu : d * u2 = e * u1) (hv : d * v2 = e * v1) : u1 * v2 - u2 * v1 = 0 ∧ (0 < u1 * v1 + u2 * v2 ↔ 0 < u1 * v1) ∧ (u1 * u1 + u2 * u2 < v1 * v1 + v2 * v2 ↔ u1 * u1 < v1 * v1) := by
  have p0 : 0 < d * d + e * e := by
    have := g_sq hd
    rcases Int.lt_trichotomy e 0 with h | h | h
    · have := g_sq (show e ≠ 0 by omega); omega
    · rw [h, Int.mul_zero]; omega
    · have := g_sq (show e ≠ 0 by omega); omega
  refine ⟨?_, ?_, ?_⟩
  · have z : d * (u1 * v2 - u2 * v1) = 0 := by grind
    rcases Int.mul_eq_zero.mp z with h | h
    · exact absurd h hd
    · exact h
  · exact (g_sg (g_sq hd) p0 (show d * d * (u1 * v1 + u2 * v2) = (d * d + e * e) * (u1 * v1) by grind)).1
  · have s := (g_sg (g_sq hd) p0 (show d * d * ((v1 * v1 + v2 * v2) - (u1 * u1 + u2 * u2)) = (d * d + e * e) * (v1 * v1 - u1 * u1) by grind)).1
    omega
/-- on the line through both: as the class asks along an axis -/
theorem g_beh_i {sx sy tx ty px py q : Int} (hd : ¬ (tx - sx = 0 ∧ ty - sy = 0)) (hl : (tx - sx) * (py - sy * q) - (ty - sy) * (px - sx * q) = 0) : g_beh sx sy tx ty px py q = g_sgn (if tx - sx = 0 then sy * q - py else sx * q - px) (if tx - sx = 0 then ty * q - py else tx * q - px) ∧ (g_far sx sy px py q < g_far tx ty px py q ↔ g_abs (if tx - sx = 0 then sy * q - py else sx * q - px) < g_abs (if tx - sx = 0 then ty * q - py else tx * q - px)) := by
  rw [Bool.eq_iff_iff, g_sgn_i, ← g_abs_i]
  unfold g_beh g_far
  rw [decide_eq_true_iff]
  by_cases h0 : tx - sx = 0
  · rw [if_pos h0, if_pos h0]
    have hdy : ty - sy ≠ 0 := fun z => hd ⟨h0, z⟩
    obtain ⟨k1, k2, k3⟩ := g_ax2 (d := ty - sy) (e := tx - sx) (u1 := sy * q - py) (u2 := sx * q - px) (v1 := ty * q - py) (v2 := tx * q - px) hdy (by grind) (by grind)
    constructor
    · rw [← k2]
      constructor
      · rintro ⟨_, h⟩
        have e : (sy * q - py) * (ty * q - py) + (sx * q - px) * (tx * q - px) = (sx * q - px) * (tx * q - px) + (sy * q - py) * (ty * q - py) := Int.add_comm _ _
        rw [e]; exact h
      · intro h
        refine ⟨by grind, ?_⟩
        have e : (sy * q - py) * (ty * q - py) + (sx * q - px) * (tx * q - px) = (sx * q - px) * (tx * q - px) + (sy * q - py) * (ty * q - py) := Int.add_comm _ _
        rw [← e]; exact h
    · rw [← k3, Int.add_comm ((sx * q - px) * (sx * q - px)), Int.add_comm ((tx * q - px) * (tx * q - px))]
  · rw [if_neg h0, if_neg h0]
    obtain ⟨k1, k2, k3⟩ := g_ax2 (d := tx - sx) (e := ty - sy) (u1 := sx * q - px) (u2 := sy * q - py) (v1 := tx * q - px) (v2 := ty * q - py) h0 (by grind) (by grind)
    exact ⟨by rw [← k2]; exact ⟨fun h => h.2, fun h => ⟨k1, h⟩⟩, k3⟩
/-- off the line: not one behind the other -/
theorem g_beh_n {sx sy tx ty px py q : Int} (hq : 0 < q) (hl : ¬ (tx - sx) * (py - sy * q) - (ty - sy) * (px - sx * q) = 0) : g_beh sx sy tx ty px py q = false := by
  unfold g_beh
  rw [decide_eq_false_iff_not]
  rintro ⟨h, _⟩
  apply hl
  have e : q * ((tx - sx) * (py - sy * q) - (ty - sy) * (px - sx * q)) = 0 := by grind
  rcases Int.mul_eq_zero.mp e with z | z
  · omega
  · exact z
