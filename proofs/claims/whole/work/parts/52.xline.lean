/-! SIM: the class looks along lines -/
def sm_cx (p : Nat) : Int := ((p % 30 : Nat) : Int)
def sm_cy (p : Nat) : Int := ((p / 30 : Nat) : Int)
theorem sm_cxb (p : Nat) : 0 ≤ sm_cx p ∧ sm_cx p ≤ 29 := by unfold sm_cx; omega
theorem sm_cyb {p : Nat} (h : p < 900) : 0 ≤ sm_cy p ∧ sm_cy p ≤ 29 := by unfold sm_cy; omega
theorem sm_cxn (p : Nat) : sm_n (p % 30) = sm_i (sm_cx p) := sm_ni _
theorem sm_cyn (p : Nat) : sm_n (p / 30) = sm_i (sm_cy p) := sm_ni _
theorem sm_cxy {p r : Nat} (h1 : sm_cx p = sm_cx r) (h2 : sm_cy p = sm_cy r) : p = r := by unfold sm_cx at h1; unfold sm_cy at h2; omega
def sm_b2 (b : Bool) : Int32 := if b = true then 1 else 0
theorem sm_b2t : sm_b2 true = 1 := rfl
theorem sm_b2f : sm_b2 false = 0 := rfl
theorem sm_b20 (b : Bool) : sm_b2 b = 0 ↔ b = false := by cases b <;> decide
theorem sm_b2n (b : Bool) : ¬ sm_b2 b = 0 ↔ b = true := by cases b <;> decide
theorem sm_zzb {β : Type} (b : Bool) (c : Option β) : gk_zz (sm_b2 b) c = c := by cases b <;> rfl
def sm_ok {α : Type} (r : Option (α × gk_M)) (v : α) (P : gk_M → Prop) : Prop := ∃ m', r = some (v, m') ∧ P m'
theorem sm_okr {α : Type} {v : α} {m : gk_M} {P : gk_M → Prop} (h : P m) : sm_ok (some (v, m)) v P := ⟨m, rfl, h⟩
theorem sm_okb {β : Type} {r : Option (Int32 × gk_M)} {v : Int32} {P Q : gk_M → Prop} {k : Int32 → gk_M → Option (β × gk_M)} {w : β} (h : sm_ok r v P) (hk : ∀ m', P m' → sm_ok (k v m') w Q) : sm_ok (gk_bi r k) w Q := by
  obtain ⟨m', e, hp⟩ := h
  rw [e, sm_bi]
  exact hk m' hp
theorem sm_okv {β : Type} {r : Option (Unit × gk_M)} {P Q : gk_M → Prop} {k : gk_M → Option (β × gk_M)} {w : β} (h : sm_ok r () P) (hk : ∀ m', P m' → sm_ok (k m') w Q) : sm_ok (gk_bv r k) w Q := by
  obtain ⟨m', e, hp⟩ := h
  rw [e, sm_bv]
  exact hk m' hp
theorem sm_okl {β : Type} {r : Option (Int64 × gk_M)} {v : Int64} {P Q : gk_M → Prop} {k : Int64 → gk_M → Option (β × gk_M)} {w : β} (h : sm_ok r v P) (hk : ∀ m', P m' → sm_ok (k v m') w Q) : sm_ok (gk_bl r k) w Q := by
  obtain ⟨m', e, hp⟩ := h
  rw [e, sm_bl]
  exact hk m' hp
theorem sm_i0lt {a : Int} (h1 : -2147483648 ≤ a) (h2 : a < 2147483648) : (sm_i a < 0 ↔ a < 0) ∧ (0 < sm_i a ↔ 0 < a) ∧ (sm_i a ≤ 0 ↔ a ≤ 0) ∧ (0 ≤ sm_i a ↔ 0 ≤ a) ∧ (sm_i a = 0 ↔ a = 0) := by
  refine ⟨sm_ilt (b := 0) h1 h2 (by omega) (by omega), sm_ilt (a := 0) (by omega) (by omega) h1 h2, sm_ile (b := 0) h1 h2 (by omega) (by omega), sm_ile (a := 0) (by omega) (by omega) h1 h2, sm_ieq (b := 0) h1 h2 (by omega) (by omega)⟩
theorem x_side {m : gk_M} {s t : Nat} {A B : sm_tw} (hs : s < 12) (ht : t < 12) (hA : sm_xw m s A) (hB : sm_xw m t B) (px py : Int) : f_Plain_side (sm_i px) (sm_i py) (sm_n s) (sm_n t) m = some (sm_i ((sm_cx B.1 - sm_cx A.1) * (py - sm_cy A.1) - (sm_cy B.1 - sm_cy A.1) * (px - sm_cx A.1)), m) := by
  unfold f_Plain_side
  rw [sm_ai ht (by omega), sm_ai hs (by omega), sm_ai hs (by omega), sm_ai ht (by omega), sm_ai hs (by omega), sm_ai hs (by omega), hA.2.1, hA.2.2.1, hB.2.1, hB.2.2.1, sm_cxn, sm_cyn, sm_cxn, sm_cyn]
  simp only [sm_i_add, sm_i_sub, sm_i_mul]
theorem x_two {a b : Int} (ha : -2147483648 ≤ a ∧ a < 2147483648) (hb : -2147483648 ≤ b ∧ b < 2147483648) (m : gk_M) : f_Plain_areBothOnOneSide (sm_i a) (sm_i b) m = some (sm_b2 (g_two a b), m) := by
  obtain ⟨a1, a2, a3, a4, a5⟩ := sm_i0lt ha.1 ha.2
  obtain ⟨b1, b2, b3, b4, b5⟩ := sm_i0lt hb.1 hb.2
  unfold f_Plain_areBothOnOneSide f_Plain_areBothOnOneSide_8 g_two
  simp only [a3, a4, b2, b4]
  by_cases h1 : a ≤ 0
  · rw [if_pos h1]
    by_cases h2 : 0 ≤ a
    · rw [if_pos h2, decide_eq_false (by omega)]; rfl
    · rw [if_neg h2]
      by_cases h3 : 0 ≤ b
      · rw [if_pos h3, decide_eq_false (by omega)]; rfl
      · rw [if_neg h3, decide_eq_true (by omega)]; rfl
  · rw [if_neg h1]
    by_cases h2 : 0 < b
    · rw [if_pos h2, decide_eq_true (by omega)]; rfl
    · rw [if_neg h2, if_pos (by omega), decide_eq_false (by omega)]; rfl
theorem x_ovl {p t a b : Int} (hp : -2147483648 ≤ p ∧ p < 2147483648) (ht : -2147483648 ≤ t ∧ t < 2147483648) (ha : -2147483648 ≤ a ∧ a < 2147483648) (hb : -2147483648 ≤ b ∧ b < 2147483648) (m : gk_M) : f_Plain_overlap (sm_i p) (sm_i t) (sm_i a) (sm_i b) m = some (sm_b2 (g_ovl p t a b), m) := by
  unfold f_Plain_overlap f_Plain_overlap_10 f_Plain_overlap_22 f_Plain_overlap_36 g_ovl
  simp only [sm_ile ht.1 ht.2 hp.1 hp.2, sm_ilt ha.1 ha.2 hp.1 hp.2, sm_ilt ha.1 ha.2 ht.1 ht.2, sm_ile hp.1 hp.2 hb.1 hb.2, sm_ile ht.1 ht.2 hb.1 hb.2, sm_ilt hp.1 hp.2 ha.1 ha.2, sm_ilt ht.1 ht.2 ha.1 ha.2, sm_ile hb.1 hb.2 hp.1 hp.2, sm_ile hb.1 hb.2 ht.1 ht.2]
  by_cases h1 : t ≤ p
  · simp only [if_pos h1]
    by_cases h2 : a < p
    · rw [if_pos h2]
      by_cases h3 : t < a
      · rw [if_pos h3, decide_eq_true (by omega)]; rfl
      · rw [if_neg h3]
        by_cases h4 : b ≤ t
        · rw [if_pos h4, decide_eq_false (by omega)]; rfl
        · rw [if_neg h4, decide_eq_true (by omega)]; rfl
    · rw [if_neg h2]
      by_cases h3 : p ≤ b
      · rw [if_pos h3, decide_eq_false (by omega)]; rfl
      · rw [if_neg h3]
        by_cases h4 : t < a
        · rw [if_pos h4, decide_eq_true (by omega)]; rfl
        · rw [if_neg h4]
          by_cases h4 : b ≤ t
          · rw [if_pos h4, decide_eq_false (by omega)]; rfl
          · rw [if_neg h4, decide_eq_true (by omega)]; rfl
  · simp only [if_neg h1]
    by_cases h2 : a < t
    · rw [if_pos h2]
      by_cases h3 : p < a
      · rw [if_pos h3, decide_eq_true (by omega)]; rfl
      · rw [if_neg h3]
        by_cases h4 : b ≤ p
        · rw [if_pos h4, decide_eq_false (by omega)]; rfl
        · rw [if_neg h4, decide_eq_true (by omega)]; rfl
    · rw [if_neg h2]
      by_cases h3 : t ≤ b
      · rw [if_pos h3, decide_eq_false (by omega)]; rfl
      · rw [if_neg h3]
        by_cases h4 : p < a
        · rw [if_pos h4, decide_eq_true (by omega)]; rfl
        · rw [if_neg h4]
          by_cases h4 : b ≤ p
          · rw [if_pos h4, decide_eq_false (by omega)]; rfl
          · rw [if_neg h4, decide_eq_true (by omega)]; rfl
/-- the size of a product -/
theorem sm_mb {a b A B : Int} (ha : -A ≤ a ∧ a ≤ A) (hb : -B ≤ b ∧ b ≤ B) : -(A * B) ≤ a * b ∧ a * b ≤ A * B := by
  have h1 := Int.mul_nonneg (show 0 ≤ A - a by omega) (show 0 ≤ B + b by omega)
  have h2 := Int.mul_nonneg (show 0 ≤ A + a by omega) (show 0 ≤ B - b by omega)
  have h3 := Int.mul_nonneg (show 0 ≤ A - a by omega) (show 0 ≤ B - b by omega)
  have h4 := Int.mul_nonneg (show 0 ≤ A + a by omega) (show 0 ≤ B + b by omega)
  have e1 : (A - a) * (B + b) = A * B + A * b - a * B - a * b := by grind
  have e2 : (A + a) * (B - b) = A * B - A * b + a * B - a * b := by grind
  have e3 : (A - a) * (B - b) = A * B - A * b - a * B + a * b := by grind
  have e4 : (A + a) * (B + b) = A * B + A * b + a * B + a * b := by grind
  omega
def sm_rg (px py q : Int) : Prop := -200000 ≤ px ∧ px ≤ 200000 ∧ -200000 ≤ py ∧ py ≤ 200000 ∧ 0 < q ∧ q ≤ 4000
def sm_cutf (S : sm_fs) (f : Nat) (px py q : Int) (p : Nat) (dx dy : Int) : Bool := g_cut (sm_cx (S.2.1 f)) (sm_cy (S.2.1 f)) (sm_cx (S.2.2 f)) (sm_cy (S.2.2 f)) px py q (sm_cx p) (sm_cy p) dx dy
theorem x_unl {a b : Int} (ha : -2147483648 ≤ a ∧ a < 2147483648) (hb : -2147483648 ≤ b ∧ b < 2147483648) (m : gk_M) : (if sm_i a ≤ 0 then f_Plain_cuts_221 (sm_i a) (sm_i b) m else if sm_i b < 0 then some (1, m) else f_Plain_cuts_221 (sm_i a) (sm_i b) m) = some (sm_b2 (g_unl a b), m) := by
  obtain ⟨a1, a2, a3, a4, a5⟩ := sm_i0lt ha.1 ha.2
  obtain ⟨b1, b2, b3, b4, b5⟩ := sm_i0lt hb.1 hb.2
  unfold f_Plain_cuts_221 g_unl
  simp only [a3, a4, b1, b3]
  by_cases h1 : a ≤ 0
  · rw [if_pos h1]
    by_cases h2 : 0 ≤ a
    · rw [if_pos h2, decide_eq_false (by omega)]; rfl
    · rw [if_neg h2]
      by_cases h3 : b ≤ 0
      · rw [if_pos h3, decide_eq_false (by omega)]; rfl
      · rw [if_neg h3, decide_eq_true (by omega)]; rfl
  · rw [if_neg h1]
    by_cases h2 : b < 0
    · rw [if_pos h2, decide_eq_true (by omega)]; rfl
    · rw [if_neg h2, if_pos (by omega), decide_eq_false (by omega)]; rfl
theorem x_cuts {m : gk_M} {S : sm_fs} {f t : Nat} {B : sm_tw} {px py q dx dy : Int} (hS : sm_xS S m) (hf : f < S.1) (ht : t < 12) (hB : sm_xw m t B) (hr : sm_rg px py q) (hdx : -29 ≤ dx ∧ dx ≤ 29) (hdy : -29 ≤ dy ∧ dy ≤ 29) : f_Plain_cuts (sm_n f) (sm_i px) (sm_i py) (sm_i q) (sm_n t) (sm_i dx) (sm_i dy) m = some (sm_b2 (sm_cutf S f px py q B.1 dx dy), m) := by
  obtain ⟨_, s2, s3⟩ := hS
  obtain ⟨f1, f2, f3, f4, f5, f6⟩ := s3 f hf
  obtain ⟨b0, b1, b2, _⟩ := hB
  obtain ⟨r1, r2, r3, r4, r5, r6⟩ := hr
  unfold f_Plain_cuts f_Plain_cuts_157 sm_cutf g_cut
  rw [sm_ai (by omega) (by omega), sm_ai (by omega) (by omega), sm_ai (by omega) (by omega), sm_ai (by omega) (by omega), sm_ai ht (by omega), sm_ai ht (by omega), f3, f4, f5, f6, b1, b2, sm_cxn, sm_cyn, sm_cxn, sm_cyn, sm_cxn, sm_cyn]
  have kax := sm_cxb (S.2.1 f)
  have kay := sm_cyb f1
  have kbx := sm_cxb (S.2.2 f)
  have kby := sm_cyb f2
  have ktx := sm_cxb B.1
  have kty := sm_cyb b0
  generalize sm_cx (S.2.1 f) = ax at *
  generalize sm_cy (S.2.1 f) = ay at *
  generalize sm_cx (S.2.2 f) = bx at *
  generalize sm_cy (S.2.2 f) = by_ at *
  generalize sm_cx B.1 = tx at *
  generalize sm_cy B.1 = ty at *
  simp only [sm_i_add, sm_i_sub, sm_i_mul, sm_let]
  have m1 := sm_mb (A := 29) (B := 29) (a := dx) (b := ay - ty) (by omega) (by omega)
  have m2 := sm_mb (A := 29) (B := 29) (a := dy) (b := ax - tx) (by omega) (by omega)
  have m3 := sm_mb (A := 29) (B := 29) (a := dx) (b := by_ - ty) (by omega) (by omega)
  have m4 := sm_mb (A := 29) (B := 29) (a := dy) (b := bx - tx) (by omega) (by omega)
  have q1 := sm_mb (A := 29) (B := 4000) (a := ax) (b := q) (by omega) (by omega)
  have q2 := sm_mb (A := 29) (B := 4000) (a := ay) (b := q) (by omega) (by omega)
  have q3 := sm_mb (A := 29) (B := 4000) (a := bx) (b := q) (by omega) (by omega)
  have q4 := sm_mb (A := 29) (B := 4000) (a := by_) (b := q) (by omega) (by omega)
  have q5 := sm_mb (A := 29) (B := 4000) (a := tx) (b := q) (by omega) (by omega)
  have q6 := sm_mb (A := 29) (B := 4000) (a := ty) (b := q) (by omega) (by omega)
  have m5 := sm_mb (A := 29) (B := 316000) (a := bx - ax) (b := py - ay * q) (by omega) (by omega)
  have m6 := sm_mb (A := 29) (B := 316000) (a := by_ - ay) (b := px - ax * q) (by omega) (by omega)
  have m7 := sm_mb (A := 29) (B := 29) (a := bx - ax) (b := ty - ay) (by omega) (by omega)
  have m8 := sm_mb (A := 29) (B := 29) (a := by_ - ay) (b := tx - ax) (by omega) (by omega)
  have bA : -2147483648 ≤ dx * (ay - ty) - dy * (ax - tx) ∧ dx * (ay - ty) - dy * (ax - tx) < 2147483648 := by omega
  have bB : -2147483648 ≤ dx * (by_ - ty) - dy * (bx - tx) ∧ dx * (by_ - ty) - dy * (bx - tx) < 2147483648 := by omega
  have bP : -2147483648 ≤ (bx - ax) * (py - ay * q) - (by_ - ay) * (px - ax * q) ∧ (bx - ax) * (py - ay * q) - (by_ - ay) * (px - ax * q) < 2147483648 := by omega
  have bT : -2147483648 ≤ (bx - ax) * (ty - ay) - (by_ - ay) * (tx - ax) ∧ (bx - ax) * (ty - ay) - (by_ - ay) * (tx - ax) < 2147483648 := by omega
  rw [x_two bA bB, sm_bi, x_unl bP bT m, x_ovl (p := py) (t := ty * q) (a := ay * q) (b := by_ * q) (by omega) (by omega) (by omega) (by omega) m, x_ovl (p := px) (t := tx * q) (a := ax * q) (b := bx * q) (by omega) (by omega) (by omega) (by omega) m]
  have zA := (sm_i0lt bA.1 bA.2).2.2.2.2
  have zB := (sm_i0lt bB.1 bB.2).2.2.2.2
  have zd := (sm_i0lt (a := dx) (by omega) (by omega)).2.2.2.2
  clear m1 m2 m3 m4 m5 m6 m7 m8 q1 q2 q3 q4 q5 q6
  by_cases h1 : g_two (dx * (ay - ty) - dy * (ax - tx)) (dx * (by_ - ty) - dy * (bx - tx)) = true
  · rw [if_pos h1, h1, sm_b2t, if_neg (by decide), sm_b2f]
  · rw [if_neg h1, if_pos ((sm_b20 _).mpr (by simpa using h1))]
    by_cases hA : dx * (ay - ty) - dy * (ax - tx) = 0
    · rw [if_neg (fun z => z (zA.mpr hA))]
      by_cases hB : dx * (by_ - ty) - dy * (bx - tx) = 0
      · rw [if_neg (fun z => z (zB.mpr hB)), if_pos (show dx * (ay - ty) - dy * (ax - tx) = 0 ∧ dx * (by_ - ty) - dy * (bx - tx) = 0 from ⟨hA, hB⟩)]
        by_cases hd : dx = 0
        · rw [if_pos (zd.mpr hd), if_pos hd, sm_bi, sm_zzb]
        · rw [if_neg (fun z => hd (zd.mp z)), if_neg hd, sm_bi, sm_zzb]
      · rw [if_pos (fun z => hB (zB.mp z)), if_neg (fun z => hB z.2)]
    · rw [if_pos (fun z => hA (zA.mp z)), if_neg (fun z => hA z.1)]
theorem x_isStopped_3 {m : gk_M} {S : sm_fs} {t : Nat} {B : sm_tw} {px py q dx dy : Int} (hS : sm_xS S m) (ht : t < 12) (hB : sm_xw m t B) (hr : sm_rg px py q) (hdx : -29 ≤ dx ∧ dx ≤ 29) (hdy : -29 ≤ dy ∧ dy ≤ 29) : ∀ l i fu, i + l = S.1 → l < fu → f_Plain_isStopped_3 fu (sm_i px) (sm_i py) (sm_i q) (sm_n t) (sm_i dx) (sm_i dy) (sm_n i) m = some (sm_b2 (sm_any l i (fun f => sm_cutf S f px py q B.1 dx dy)), m)
  | 0, i, fu + 1, hi, _ => by
    have := hS.2.1
    unfold f_Plain_isStopped_3
    rw [hS.1, if_pos (by simp (disch := omega) only [sm_lit, sm_nlt, sm_nle, sm_neq, sm_n_add, sm_n_mul, sm_n_div, sm_n_rem, sm_bi, sm_bl, sm_bv, sm_let, sm_zz0, sm_zz1, sm_ai, sm_si, sm_al, sm_sl, sm_ar, sm_mi1, sm_mi0, sm_ml1, sm_ml0, sm_mil, sm_mli]; omega)]
    rfl
  | l + 1, i, fu + 1, hi, hf => by
    have := hS.2.1
    unfold f_Plain_isStopped_3
    rw [hS.1, if_neg (by simp (disch := omega) only [sm_lit, sm_nlt, sm_nle, sm_neq, sm_n_add, sm_n_mul, sm_n_div, sm_n_rem, sm_bi, sm_bl, sm_bv, sm_let, sm_zz0, sm_zz1, sm_ai, sm_si, sm_al, sm_sl, sm_ar, sm_mi1, sm_mi0, sm_ml1, sm_ml0, sm_mil, sm_mli]; omega), x_cuts hS (by omega) ht hB hr hdx hdy, sm_bi, show sm_n i + 1 = sm_n (i + 1) from sm_n_add i 1]
    cases hc : sm_cutf S i px py q B.1 dx dy with
    | false =>
      rw [if_pos (show sm_b2 false = 0 from rfl), x_isStopped_3 hS ht hB hr hdx hdy l (i + 1) fu (by omega) (by omega)]
      simp only [sm_any, hc, Bool.false_or]
    | true =>
      rw [if_neg (by decide)]
      simp only [sm_any, hc, Bool.true_or]
      rfl
def sm_xst (S : sm_fs) (px py q : Int) (p : Nat) (dx dy : Int) : Bool := sm_any S.1 0 (fun f => sm_cutf S f px py q p dx dy)
theorem x_isStopped {m : gk_M} {S : sm_fs} {t : Nat} {B : sm_tw} {px py q dx dy : Int} (hS : sm_xS S m) (ht : t < 12) (hB : sm_xw m t B) (hr : sm_rg px py q) (hdx : -29 ≤ dx ∧ dx ≤ 29) (hdy : -29 ≤ dy ∧ dy ≤ 29) : f_Plain_isStopped (sm_i px) (sm_i py) (sm_i q) (sm_n t) (sm_i dx) (sm_i dy) m = some (sm_b2 (sm_xst S px py q B.1 dx dy), m) := by
  have := hS.2.1
  exact x_isStopped_3 hS ht hB hr hdx hdy S.1 0 gk_fv (by omega) (by rw [gk_fv_eq]; omega)
/-- the memory after questions -/
def sm_q (n : Nat) (T : Nat → sm_tw) (R : sm_rd) (S : sm_fs) (F : sm_lf) (m0 m : gk_M) : Prop := sm_X n T R S F m ∧ (∀ k j, k ≠ 3 → k ≠ 19 → k ≠ 20 → m.1 k j = m0.1 k j) ∧ m.2 = m0.2
theorem sm_q0 {n : Nat} {T : Nat → sm_tw} {R : sm_rd} {S : sm_fs} {F : sm_lf} {m : gk_M} (h : sm_X n T R S F m) : sm_q n T R S F m m := ⟨h, fun _ _ _ _ _ => rfl, rfl⟩
section XQ
variable {n : Nat} {T : Nat → sm_tw} {R : sm_rd} {S : sm_fs} {F : sm_lf} {m0 m : gk_M}
theorem x_counts_131 (hq : sm_q n T R S F m0 m) {k s t : Nat} (hk : k < 5) (hs : s < 12) (ht : t < 12) (hv : m.1 20 ((k * 12 + s) * 12 + t) = if sm_cnt F (T s) (T t) k = true then 1 else 2) : sm_ok (f_Plain_counts_131 (sm_n ((k * 12 + s) * 12 + t)) m) (sm_b2 (sm_cnt F (T s) (T t) k)) (sm_q n T R S F m0) := by
  unfold f_Plain_counts_131
  rw [sm_ai (by omega) (by omega), hv]
  cases sm_cnt F (T s) (T t) k with
  | true => rw [show (if true = true then (1 : Int32) else 2) = 1 from rfl, if_neg (by decide)]; exact sm_okr hq
  | false => rw [show (if false = true then (1 : Int32) else 2) = 2 from rfl, if_pos (by decide)]; exact sm_okr hq
theorem x_min (a b : Nat) (ha : a < 2147483648) (hb : b < 2147483648) : gk_min (sm_n a) (sm_n b) = sm_n (min a b) ∧ gk_max (sm_n a) (sm_n b) = sm_n (max a b) := by
  unfold gk_min gk_max
  simp only [sm_nlt ha hb, sm_nlt hb ha]
  constructor
  · by_cases h : b < a
    · rw [if_pos h, Nat.min_eq_right (by omega)]
    · rw [if_neg h, Nat.min_eq_left (by omega)]
  · by_cases h : a < b
    · rw [if_pos h, Nat.max_eq_right (by omega)]
    · rw [if_neg h, Nat.max_eq_left (by omega)]
theorem x_counts (hq : sm_q n T R S F m0 m) {k s t : Nat} (hk : k < 5) (hs : s < 12) (ht : t < 12) : sm_ok (f_Plain_counts (sm_n k) (sm_n s) (sm_n t) m) (sm_b2 (sm_cnt F (T s) (T t) k)) (sm_q n T R S F m0) := by
  obtain ⟨⟨x1, x2, x3, x4, x5, x6, x7⟩, hf, hl⟩ := id hq
  unfold f_Plain_counts f_Plain_counts_130
  rw [show (12 : Int32) = sm_n 12 from rfl, sm_n_mul, sm_n_add, sm_n_mul, sm_n_add, sm_let, sm_ai (by omega) (by omega)]
  rcases x7 k s t hk hs ht with h | h
  · rw [if_neg (fun z => z h), sm_ai hs (by omega), show (0 : Int32) = sm_n 0 from rfl, sm_si (by omega) (by omega), sm_ai ht (by omega), show (1 : Int32) = sm_n 1 from rfl, sm_si (by omega) (by omega), sm_ai hs (by omega), sm_ai ht (by omega), show (2 : Int32) = sm_n 2 from rfl, sm_si (by omega) (by omega), show (3 : Int32) = sm_n 3 from rfl, sm_si (by omega) (by omega), show (4 : Int32) = sm_n 4 from rfl, sm_si (by omega) (by omega), show (5 : Int32) = sm_n 5 from rfl, sm_si (by omega) (by omega)]
    rw [show (10 : Int32) = sm_n 10 from rfl, (x_min s t (by omega) (by omega)).1, (x_min s t (by omega) (by omega)).2, (x_min _ 10 (by omega) (by omega)).1, (x_min _ 10 (by omega) (by omega)).1]
    have X := x3 s hs
    have Y := x3 t ht
    obtain ⟨M, hM⟩ : ∃ M, M = gk_mi (gk_mi (gk_mi (gk_mi (gk_mi (gk_mi m 19 0 (m.1 10 s)) 19 1 ((gk_mi m 19 0 (m.1 10 s)).1 10 t)) 19 2 ((gk_mi (gk_mi m 19 0 (m.1 10 s)) 19 1 ((gk_mi m 19 0 (m.1 10 s)).1 10 t)).1 12 s + (gk_mi (gk_mi m 19 0 (m.1 10 s)) 19 1 ((gk_mi m 19 0 (m.1 10 s)).1 10 t)).1 12 t)) 19 3 (sm_n k)) 19 4 (sm_n (min (min s t) 10))) 19 5 (sm_n (min (max s t) 10)) := ⟨_, rfl⟩
    rw [← hM]
    have eO : ∀ a b, ¬ a = 19 → M.1 a b = m.1 a b := by
      intro a b ha
      rw [hM]
      simp (disch := omega) only [sm_mi1, sm_mi0, sm_ml1, sm_ml0, sm_mil, sm_mli]
    obtain ⟨v, m2, e1, e2, e3, e4⟩ := x6 M (funext fun j => eO 1 j (by decide)) (funext fun j => eO 2 j (by decide))
    have n0 : M.1 19 0 = (T s).2.1 := by rw [hM]; simp (disch := omega) only [sm_mi1, sm_mi0, sm_ml1, sm_ml0, sm_mil, sm_mli]; exact X.2.2.2.1
    have n1 : M.1 19 1 = (T t).2.1 := by rw [hM]; simp (disch := omega) only [sm_mi1, sm_mi0, sm_ml1, sm_ml0, sm_mil, sm_mli]; exact Y.2.2.2.1
    have n2 : M.1 19 2 = (T s).2.2.1 + (T t).2.2.1 := by rw [hM]; simp (disch := omega) only [sm_mi1, sm_mi0, sm_ml1, sm_ml0, sm_mil, sm_mli]; rw [X.2.2.2.2.1, Y.2.2.2.2.1]
    have n3 : M.1 19 3 = sm_n k := by rw [hM]; simp (disch := omega) only [sm_mi1, sm_mi0, sm_ml1, sm_ml0, sm_mil, sm_mli]
    have n4 : M.1 19 4 = sm_n (min (T s).2.2.2 (T t).2.2.2) := by rw [hM]; simp (disch := omega) only [sm_mi1, sm_mi0, sm_ml1, sm_ml0, sm_mil, sm_mli]; rw [X.2.2.2.2.2, Y.2.2.2.2.2]; congr 1; omega
    have n5 : M.1 19 5 = sm_n (max (T s).2.2.2 (T t).2.2.2) := by rw [hM]; simp (disch := omega) only [sm_mi1, sm_mi0, sm_ml1, sm_ml0, sm_mil, sm_mli]; rw [X.2.2.2.2.2, Y.2.2.2.2.2]; congr 1; omega
    rw [n0, n1, n2, n3, n4, n5] at e2
    have e2 : v = 0 ↔ sm_cnt F (T s) (T t) k = false := e2
    rw [e1, sm_bi]
    have key : ∀ w : Int32, w = (if sm_cnt F (T s) (T t) k = true then 1 else 2) → sm_ok (gk_si m2 20 720 (sm_n ((k * 12 + s) * 12 + t)) w fun m1 => f_Plain_counts_131 (sm_n ((k * 12 + s) * 12 + t)) m1) (sm_b2 (sm_cnt F (T s) (T t) k)) (sm_q n T R S F m0) := by
      intro w hw
      rw [sm_si (by omega) (by omega)]
      have eq2 : ∀ a b, a ≠ 3 → a ≠ 19 → m2.1 a b = m.1 a b := by
        intro a b h3 h19
        rw [e3 a h3, eO a b h19]
      refine x_counts_131 ⟨⟨?_, x2, ?_, ?_, ?_, ?_, ?_⟩, ?_, ?_⟩ hk hs ht ?_
      · simp (disch := omega) only [sm_mi1, sm_mi0, sm_ml1, sm_ml0, sm_mil, sm_mli]; rw [eq2 7 5 (by decide) (by decide)]; exact x1
      · exact sm_xT_fr (fun k j h => by rw [sm_mi0 (by omega), eq2 k j (by omega) (by omega)]) x3
      · exact sm_xR_fr (fun k j h => by rw [sm_mi0 (by omega), eq2 k j (by omega) (by omega)]) x4
      · exact sm_xS_fr (fun k j h => by rw [sm_mi0 (by omega), eq2 k j (by omega) (by omega)]) x5
      · exact sm_xF_fr (fun k j h => by rw [sm_mi0 (by omega), eq2 k j (by omega) (by omega)]) x6
      · intro k' s' t' hk' hs' ht'
        by_cases z : (k' * 12 + s') * 12 + t' = (k * 12 + s) * 12 + t
        · have z1 : k' = k ∧ s' = s ∧ t' = t := by omega
          obtain ⟨rfl, rfl, rfl⟩ := z1
          rw [sm_mi1]
          exact Or.inr hw
        · rw [sm_mi0 (by omega), eq2 20 _ (by decide) (by decide)]
          exact x7 k' s' t' hk' hs' ht'
      · intro a b h3 h19 h20
        rw [sm_mi0 (by omega), eq2 a b h3 h19]
        exact hf a b h3 h19 h20
      · show m2.2 = m0.2
        rw [e4, hM]; exact hl
      · rw [sm_mi1]; exact hw
    by_cases hv : v = 0
    · rw [if_pos (show v = sm_n 0 from hv)]
      exact key 2 (by rw [e2.mp hv]; rfl)
    · rw [if_neg (show ¬ v = sm_n 0 from hv)]
      have : sm_cnt F (T s) (T t) k = true := by
        cases hc : sm_cnt F (T s) (T t) k with
        | true => rfl
        | false => exact absurd (e2.mpr hc) hv
      exact key 1 (by rw [this]; rfl)
  · have hne : ¬ m.1 20 ((k * 12 + s) * 12 + t) = 0 := by
      rw [h]
      split <;> decide
    rw [if_pos hne]
    exact x_counts_131 hq hk hs ht h
end XQ
