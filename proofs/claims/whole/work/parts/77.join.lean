/-! SIM: what is seen: nearer by steps or by squares -/
theorem g_man {a b c d : Int} (ha : 0 < a) (hb : 0 ≤ b) (h : a * d = b * c) : c + d < a + b ↔ c < a := by
  by_cases e : c < a
  · have k1 : b * c ≤ b * a := Int.mul_le_mul_of_nonneg_left (by omega) hb
    have k2 : a * d ≤ a * b := by rw [h, Int.mul_comm a b]; exact k1
    have k3 := Int.le_of_mul_le_mul_left k2 ha
    omega
  · have k1 : b * a ≤ b * c := Int.mul_le_mul_of_nonneg_left (by omega) hb
    have k2 : a * b ≤ a * d := by rw [h, Int.mul_comm a b]; exact k1
    have k3 := Int.le_of_mul_le_mul_left k2 ha
    omega
theorem g_abs_n (a : Int) : g_abs a = (a.natAbs : Int) := by unfold g_abs; split <;> omega
theorem g_abs_mul (a b : Int) : g_abs a * g_abs b = g_abs (a * b) := by
  rw [g_abs_n, g_abs_n, g_abs_n, Int.natAbs_mul]
  rfl
theorem g_abs_0 (a : Int) : 0 ≤ g_abs a := by unfold g_abs; split <;> omega
theorem g_abs_p {a : Int} (h : a ≠ 0) : 0 < g_abs a := by unfold g_abs; split <;> omega
theorem g_ray {u1 u2 v1 v2 : Int} (h1 : u1 * v2 - u2 * v1 = 0) (h2 : 0 < u1 * v1 + u2 * v2) : g_abs v1 + g_abs v2 < g_abs u1 + g_abs u2 ↔ v1 * v1 + v2 * v2 < u1 * u1 + u2 * u2 := by
  have h3 : u1 * v2 = u2 * v1 := by omega
  by_cases e : u1 = 0
  · have e2 : u2 ≠ 0 := by
      intro z
      rw [e, z, Int.zero_mul, Int.zero_mul] at h2
      omega
    have k := (g_ax2 (d := u2) (e := u1) (u1 := v2) (u2 := v1) (v1 := u2) (v2 := u1) e2 h3.symm (Int.mul_comm _ _)).2.2
    have k2 := g_man (a := g_abs u2) (b := g_abs u1) (c := g_abs v2) (d := g_abs v1) (g_abs_p e2) (g_abs_0 _) (by rw [g_abs_mul, g_abs_mul, h3])
    rw [g_abs_i] at k
    rw [Int.add_comm (g_abs v1), Int.add_comm (g_abs u1), k2, ← k, Int.add_comm (v2 * v2), Int.add_comm (u2 * u2)]
  · have k := (g_ax2 (d := u1) (e := u2) (u1 := v1) (u2 := v2) (v1 := u1) (v2 := u2) e h3 (Int.mul_comm _ _)).2.2
    have k2 := g_man (a := g_abs u1) (b := g_abs u2) (c := g_abs v1) (d := g_abs v2) (g_abs_p e) (g_abs_0 _) (by rw [g_abs_mul, g_abs_mul, h3])
    rw [g_abs_i] at k
    rw [k2, ← k]
theorem sm_man {px py : Int} {a b : Nat} (h : sm_bh px py 1 a b = true) : g_abs (sm_cx b - px) + g_abs (sm_cy b - py) < g_abs (sm_cx a - px) + g_abs (sm_cy a - py) ↔ sm_fr px py 1 b < sm_fr px py 1 a := by
  unfold sm_bh g_beh at h
  rw [decide_eq_true_iff] at h
  simp only [Int.mul_one] at h
  unfold sm_fr g_far
  simp only [Int.mul_one]
  exact g_ray h.1 h.2
/-- one hides another from a point -/
def sm_hdn (T : Nat → sm_tw) (p t u : Nat) : Bool := sm_bh (sm_cx p) (sm_cy p) 1 (T t).1 (T u).1 && decide (sm_fr (sm_cx p) (sm_cy p) 1 (T u).1 < sm_fr (sm_cx p) (sm_cy p) 1 (T t).1) && !decide ((T u).2.1 < (T t).2.1)
/-- is seen among others -/
def sm_vs (n : Nat) (T : Nat → sm_tw) (S : sm_fs) (O : Nat → Bool) (p t : Nat) : Bool := !((T t).1 == p) && !sm_gst S (sm_cx p) (sm_cy p) 1 (T t).1 && !sm_any n 0 (fun u => O u && !(u == t) && sm_hdn T p t u)
theorem sm_bh_0 {p : Nat} (b : Nat) : sm_bh (sm_cx p) (sm_cy p) 1 b p = false := by
  unfold sm_bh g_beh
  rw [decide_eq_false_iff_not]
  rintro ⟨_, h⟩
  rw [show sm_cx p * 1 - sm_cx p = 0 by omega, show sm_cy p * 1 - sm_cy p = 0 by omega, Int.mul_zero, Int.mul_zero] at h
  omega
/-! bits cleared -/
theorem sm_not1 : ∀ j : Fin 10, ((1 : Int32) <<< (sm_n j.1 &&& 31)) ^^^ (-1) = sm_n (4294967295 - 2 ^ j.1) := by decide
def sm_cb (a j : Nat) : Nat := a &&& (4294967295 - 2 ^ j)
theorem sm_cb_eq (a : Nat) {j : Nat} (hj : j < 10) : sm_n a &&& ((1 <<< (sm_n j &&& 31)) ^^^ (-1)) = sm_n (sm_cb a j) := by
  rw [sm_not1 ⟨j, hj⟩, sm_band]; rfl
theorem sm_cb_d : ∀ j u : Fin 10, (4294967295 - 2 ^ j.1).testBit u.1 = !decide (u.1 = j.1) := by decide
theorem sm_hi {a u : Nat} (ha : a < 1024) (hu : ¬ u < 10) : a.testBit u = false :=
  Nat.testBit_lt_two_pow (Nat.lt_of_lt_of_le ha (Nat.pow_le_pow_right (n := 2) (i := 10) (by decide) (by omega)))
theorem sm_cb_bit {a j : Nat} (ha : a < 1024) (hj : j < 10) (u : Nat) : (sm_cb a j).testBit u = (a.testBit u && !decide (u = j)) := by
  unfold sm_cb
  rw [Nat.testBit_and]
  by_cases hu : u < 10
  · rw [sm_cb_d ⟨j, hj⟩ ⟨u, hu⟩]
  · rw [sm_hi ha hu]; rfl
theorem sm_cb_lt {a j : Nat} (ha : a < 1024) : sm_cb a j < 1024 := Nat.lt_of_le_of_lt Nat.and_le_left ha
theorem sm_or_lt {a t : Nat} (ha : a < 1024) (ht : t < 10) : a ||| 2 ^ t < 1024 := Nat.or_lt_two_pow (n := 10) ha (Nat.pow_lt_pow_right (by decide) ht)
theorem sm_or_bit (a t u : Nat) : (a ||| 2 ^ t).testBit u = (a.testBit u || decide (u = t)) := by
  rw [Nat.testBit_or, Nat.testBit_two_pow]
  congr 1
  exact decide_eq_decide.mpr ⟨fun h => h.symm, fun h => h.symm⟩
/-! one more joins -/
section JOIN
variable {n : Nat} {T : Nat → sm_tw} {S : sm_fs} {m : gk_M}
theorem sm_re_no {re : Nat → Bool} {j u n : Nat} (h : re j = false) : (decide (j + 1 ≤ u ∧ u < n) && re u) = (decide (j ≤ u ∧ u < n) && re u) := by
  by_cases e : u = j
  · subst e; rw [h, Bool.and_false, Bool.and_false]
  · rw [show decide (j + 1 ≤ u ∧ u < n) = decide (j ≤ u ∧ u < n) from decide_eq_decide.mpr (by omega)]
theorem x_al {px py dx dy : Int} {t j : Nat} (ht : (T t).1 < 900) (hj : (T j).1 < 900) (hpx : 0 ≤ px ∧ px ≤ 29) (hpy : 0 ≤ py ∧ py ≤ 29) (edx : dx = sm_cx (T t).1 - px) (edy : dy = sm_cy (T t).1 - py) {α : Type} (A B : α) : (if ¬ (sm_i dx * sm_i (sm_cy (T j).1 - py)) = (sm_i dy * sm_i (sm_cx (T j).1 - px)) then A else if ((sm_i dx * sm_i (sm_cx (T j).1 - px)) + (sm_i dy * sm_i (sm_cy (T j).1 - py))) ≤ 0 then A else B) = if sm_bh px py 1 (T t).1 (T j).1 = true then B else A := by
  have c1 := sm_cxb (T t).1
  have c2 := sm_cyb ht
  have c3 := sm_cxb (T j).1
  have c4 := sm_cyb hj
  simp only [sm_i_mul, sm_i_add]
  have e : sm_bh px py 1 (T t).1 (T j).1 = decide (dx * (sm_cy (T j).1 - py) - dy * (sm_cx (T j).1 - px) = 0 ∧ 0 < dx * (sm_cx (T j).1 - px) + dy * (sm_cy (T j).1 - py)) := by
    unfold sm_bh g_beh
    simp only [Int.mul_one]
    rw [edx, edy]
  rw [e]
  have m1 := sm_mb (A := 29) (B := 29) (a := dx) (b := sm_cy (T j).1 - py) (by omega) (by omega)
  have m2 := sm_mb (A := 29) (B := 29) (a := dy) (b := sm_cx (T j).1 - px) (by omega) (by omega)
  have m3 := sm_mb (A := 29) (B := 29) (a := dx) (b := sm_cx (T j).1 - px) (by omega) (by omega)
  have m4 := sm_mb (A := 29) (B := 29) (a := dy) (b := sm_cy (T j).1 - py) (by omega) (by omega)
  generalize dx * (sm_cy (T j).1 - py) = w1 at *
  generalize dy * (sm_cx (T j).1 - px) = w2 at *
  generalize dx * (sm_cx (T j).1 - px) = w3 at *
  generalize dy * (sm_cy (T j).1 - py) = w4 at *
  have z := (sm_i0lt (a := w3 + w4) (by omega) (by omega)).2.2.1
  by_cases h1 : w1 = w2
  · rw [if_neg (show ¬ ¬ sm_i w1 = sm_i w2 by rw [h1]; exact fun z => z rfl)]
    by_cases h2 : w3 + w4 ≤ 0
    · rw [if_pos (z.mpr h2), decide_eq_false (show ¬ (w1 - w2 = 0 ∧ 0 < w3 + w4) by omega), if_neg Bool.false_ne_true]
    · rw [if_neg (fun y => h2 (z.mp y)), decide_eq_true (show w1 - w2 = 0 ∧ 0 < w3 + w4 by omega), if_pos rfl]
  · rw [if_pos (show ¬ sm_i w1 = sm_i w2 by rw [sm_ieq (by omega) (by omega) (by omega) (by omega)]; exact h1), decide_eq_false (show ¬ (w1 - w2 = 0 ∧ 0 < w3 + w4) by omega), if_neg Bool.false_ne_true]
theorem sm_32lt (a b : Int32) : b ≤ a ↔ ¬ a < b := by
  rw [sm_lt, sm_le]; omega
theorem x_nr {px py dx dy : Int} {t j : Nat} (ht : (T t).1 < 900) (hj : (T j).1 < 900) (hpx : 0 ≤ px ∧ px ≤ 29) (hpy : 0 ≤ py ∧ py ≤ 29) (edx : dx = sm_cx (T t).1 - px) (edy : dy = sm_cy (T t).1 - py) (hb : sm_bh px py 1 (T t).1 (T j).1 = true) : (gk_abs (sm_i dx) + gk_abs (sm_i dy) ≤ gk_abs (sm_i (sm_cx (T j).1 - px)) + gk_abs (sm_i (sm_cy (T j).1 - py))) ↔ ¬ sm_fr px py 1 (T j).1 < sm_fr px py 1 (T t).1 := by
  have c1 := sm_cxb (T t).1
  have c2 := sm_cyb ht
  have c3 := sm_cxb (T j).1
  have c4 := sm_cyb hj
  have b : ∀ a : Int, -29 ≤ a → a ≤ 29 → 0 ≤ g_abs a ∧ g_abs a ≤ 29 := by
    intro a h1 h2; unfold g_abs; split <;> omega
  have b1 := b dx (by omega) (by omega)
  have b2 := b dy (by omega) (by omega)
  have b3 := b (sm_cx (T j).1 - px) (by omega) (by omega)
  have b4 := b (sm_cy (T j).1 - py) (by omega) (by omega)
  rw [← sm_man hb, sm_iabs (by omega) (by omega), sm_iabs (by omega) (by omega), sm_iabs (by omega) (by omega), sm_iabs (by omega) (by omega), sm_i_add, sm_i_add, sm_ile (by omega) (by omega) (by omega) (by omega), ← edx, ← edy]
  omega
theorem x_js79 {o : Int32} {O : Nat → Bool} {p t : Nat} {px py dx dy : Int} (hn : n ≤ 10) (hO : ∀ j, j < n → ((o >>> (sm_n j &&& 31)) &&& 1) = sm_b2 (O j)) (htn : t < n) (h5 : m.1 7 5 = sm_n n) (hT : ∀ t, t < 12 → sm_xw m t (T t)) (hpx : 0 ≤ px ∧ px ≤ 29) (hpy : 0 ≤ py ∧ py ≤ 29) (edx : dx = sm_cx (T t).1 - px) (edy : dy = sm_cy (T t).1 - py) (hi re : Nat → Bool) (hhi : ∀ j, hi j = (O j && sm_bh px py 1 (T t).1 (T j).1 && decide (sm_fr px py 1 (T j).1 < sm_fr px py 1 (T t).1) && !decide ((T j).2.1 < (T t).2.1))) (hre : ∀ j, re j = (O j && sm_bh px py 1 (T t).1 (T j).1 && !decide (sm_fr px py 1 (T j).1 < sm_fr px py 1 (T t).1) && !decide ((T t).2.1 < (T j).2.1))) : ∀ l j fu a b, j + l = n → l < fu → a < 1024 → ∃ r, r < 1024 ∧ (∀ u, r.testBit u = ((a.testBit u && !(decide (j ≤ u ∧ u < n) && re u)) || (decide (u = t) && (b && !sm_any l j hi)))) ∧ f_Plain_joinSeen_79 fu o (sm_n t) (sm_i px) (sm_i py) (sm_i dx) (sm_i dy) (sm_n a) (sm_b2 b) (sm_n j) m = some (sm_n r, m)
  | 0, j, fu + 1, a, b, h1, h3, ha => by
    unfold f_Plain_joinSeen_79
    rw [h5, if_pos (by simp (disch := omega) only [sm_lit, sm_nlt, sm_nle, sm_neq, sm_n_add, sm_n_mul, sm_n_div, sm_n_rem, sm_bi, sm_bl, sm_bv, sm_let, sm_zz0, sm_zz1, sm_ai, sm_si, sm_al, sm_sl, sm_ar, sm_mi1, sm_mi0, sm_ml1, sm_ml0, sm_mil, sm_mli]; omega)]
    cases b with
    | false =>
      refine ⟨a, ha, fun u => ?_, ?_⟩
      · rw [decide_eq_false (show ¬ (j ≤ u ∧ u < n) by omega)]
        simp
      · rw [if_pos (show sm_b2 false = 0 from rfl)]
    | true =>
      refine ⟨a ||| 2 ^ t, sm_or_lt ha (by omega), fun u => ?_, ?_⟩
      · rw [decide_eq_false (show ¬ (j ≤ u ∧ u < n) by omega), sm_or_bit]
        simp [sm_any]
      · rw [if_neg (show ¬ sm_b2 true = 0 by decide), sm_shl (by omega), sm_bor]
  | l + 1, j, fu + 1, a, b, h1, h3, ha => by
    have ih := fun a' b' ha' => x_js79 (p := p) hn hO htn h5 hT hpx hpy edx edy hi re hhi hre l (j + 1) fu a' b' (by omega) (by omega) ha'
    have Xt := hT t (by omega)
    have Xj := hT j (by omega)
    unfold f_Plain_joinSeen_79 f_Plain_joinSeen_143 f_Plain_joinSeen_144 f_Plain_joinSeen_214 f_Plain_joinSeen_215
    rw [h5, if_neg (by simp (disch := omega) only [sm_lit, sm_nlt, sm_nle, sm_neq, sm_n_add, sm_n_mul, sm_n_div, sm_n_rem, sm_bi, sm_bl, sm_bv, sm_let, sm_zz0, sm_zz1, sm_ai, sm_si, sm_al, sm_sl, sm_ar, sm_mi1, sm_mi0, sm_ml1, sm_ml0, sm_mil, sm_mli]; omega), sm_ai (by omega) (by omega), sm_let, sm_ai (by omega) (by omega), sm_let, Xj.2.1, Xj.2.2.1, sm_cxn, sm_cyn, sm_i_sub, sm_i_sub, x_al Xt.1 Xj.1 hpx hpy edx edy, hO j (by omega), show sm_n j + 1 = sm_n (j + 1) from sm_n_add j 1]
    have skip : hi j = false → re j = false → ∃ r, r < 1024 ∧ (∀ u, r.testBit u = ((a.testBit u && !(decide (j ≤ u ∧ u < n) && re u)) || (decide (u = t) && (b && !sm_any (l + 1) j hi)))) ∧ f_Plain_joinSeen_79 fu o (sm_n t) (sm_i px) (sm_i py) (sm_i dx) (sm_i dy) (sm_n a) (sm_b2 b) (sm_n (j + 1)) m = some (sm_n r, m) := by
      intro e1 e2
      obtain ⟨r, r1, r2, r3⟩ := ih a b ha
      refine ⟨r, r1, fun u => ?_, r3⟩
      rw [r2, sm_re_no e2, sm_anyf e1]
    cases hOj : O j with
    | false =>
      have e1 : hi j = false := by rw [hhi, hOj]; rfl
      have e2 : re j = false := by rw [hre, hOj]; rfl
      rw [if_pos (show sm_b2 false = 0 from rfl), if_pos (show sm_b2 false = 0 from rfl)]
      rw [ite_self]
      exact skip e1 e2
    | true =>
      rw [if_neg (show ¬ sm_b2 true = 0 by decide), if_neg (show ¬ sm_b2 true = 0 by decide)]
      cases hb : sm_bh px py 1 (T t).1 (T j).1 with
      | false =>
        have e1 : hi j = false := by rw [hhi, hOj, hb]; rfl
        have e2 : re j = false := by rw [hre, hOj, hb]; rfl
        rw [if_neg Bool.false_ne_true, if_neg (show ¬ ¬ (0 : Int32) = 0 from fun z => z rfl)]
        exact skip e1 e2
      | true =>
        rw [if_pos rfl, if_pos (show ¬ (1 : Int32) = 0 by decide)]
        by_cases hnr : sm_fr px py 1 (T j).1 < sm_fr px py 1 (T t).1
        · rw [if_neg (fun z => (x_nr Xt.1 Xj.1 hpx hpy edx edy hb).mp z hnr), sm_ai (by omega) (by omega), sm_ai (by omega) (by omega), Xj.2.2.2.1, Xt.2.2.2.1]
          have e2 : re j = false := by rw [hre, hOj, hb, decide_eq_true hnr]; rfl
          have e1 : hi j = !decide ((T j).2.1 < (T t).2.1) := by rw [hhi, hOj, hb, decide_eq_true hnr]; rfl
          have fin : ∀ b', b' = (b && decide ((T j).2.1 < (T t).2.1)) → ∃ r, r < 1024 ∧ (∀ u, r.testBit u = ((a.testBit u && !(decide (j ≤ u ∧ u < n) && re u)) || (decide (u = t) && (b && !sm_any (l + 1) j hi)))) ∧ f_Plain_joinSeen_79 fu o (sm_n t) (sm_i px) (sm_i py) (sm_i dx) (sm_i dy) (sm_n a) (sm_b2 b') (sm_n (j + 1)) m = some (sm_n r, m) := by
            intro b' hb'
            obtain ⟨r, r1, r2, r3⟩ := ih a b' ha
            refine ⟨r, r1, fun u => ?_, r3⟩
            rw [r2, sm_re_no e2, hb']
            congr 2
            cases hl : decide ((T j).2.1 < (T t).2.1) with
            | false => rw [sm_anyt (e1.trans (by rw [hl]; rfl))]; simp
            | true => rw [sm_anyf (e1.trans (by rw [hl]; rfl))]; simp
          cases b with
          | false =>
            rw [if_pos (show sm_b2 false = 0 from rfl)]
            exact fin false rfl
          | true =>
            rw [if_neg (show ¬ sm_b2 true = 0 by decide)]
            by_cases hl : (T j).2.1 < (T t).2.1
            · rw [if_neg (show ¬ (T t).2.1 ≤ (T j).2.1 from fun z => (sm_32lt _ _).mp z hl)]
              exact fin true (by rw [decide_eq_true hl]; rfl)
            · rw [if_pos (show (T t).2.1 ≤ (T j).2.1 from (sm_32lt _ _).mpr hl)]
              exact fin false (by rw [decide_eq_false hl]; rfl)
        · rw [if_pos ((x_nr Xt.1 Xj.1 hpx hpy edx edy hb).mpr hnr), sm_ai (by omega) (by omega), sm_ai (by omega) (by omega), Xj.2.2.2.1, Xt.2.2.2.1]
          have e1 : hi j = false := by rw [hhi, hOj, hb, decide_eq_false hnr]; rfl
          by_cases hl : (T t).2.1 < (T j).2.1
          · rw [if_pos hl]
            exact skip e1 (by rw [hre, hOj, hb, decide_eq_false hnr, decide_eq_true hl]; rfl)
          · rw [if_neg hl, sm_let, sm_cb_eq a (show j < 10 by omega)]
            have e2 : re j = true := by rw [hre, hOj, hb, decide_eq_false hnr, decide_eq_false hl]; rfl
            obtain ⟨r, r1, r2, r3⟩ := ih (sm_cb a j) b (sm_cb_lt ha)
            refine ⟨r, r1, fun u => ?_, r3⟩
            rw [r2, sm_cb_bit ha (by omega), sm_anyf e1]
            congr 1
            by_cases e : u = j
            · subst e
              rw [e2, decide_eq_true (show u = u from rfl), decide_eq_true (show u ≤ u ∧ u < n by omega)]
              simp
            · rw [decide_eq_false e, show decide (j + 1 ≤ u ∧ u < n) = decide (j ≤ u ∧ u < n) from decide_eq_decide.mpr (by omega)]
              simp
end JOIN
