/-! SIM: two in line, as the class finds them -/
def sm_gst (S : sm_fs) (px py q : Int) (p : Nat) : Bool := sm_any S.1 0 (fun f => g_stop px py (sm_cx p * q) (sm_cy p * q) (sm_cx (S.2.1 f) * q) (sm_cy (S.2.1 f) * q) (sm_cx (S.2.2 f) * q) (sm_cy (S.2.2 f) * q))
def sm_fr (px py q : Int) (p : Nat) : Int := g_far (sm_cx p) (sm_cy p) px py q
def sm_bh (px py q : Int) (p r : Nat) : Bool := g_beh (sm_cx p) (sm_cy p) (sm_cx r) (sm_cy r) px py q
def sm_inl (S : sm_fs) (F : sm_lf) (A B : sm_tw) (k : Nat) (px py q : Int) : Bool := sm_bh px py q A.1 B.1 && !(sm_gst S px py q A.1) && !(sm_gst S px py q B.1) && (if sm_fr px py q A.1 < sm_fr px py q B.1 then sm_cnt F A B k else sm_cnt F B A k)
theorem sm_any_imp {f g : Nat → Bool} : ∀ {l i : Nat}, (∀ j, f j = true → g j = true) → sm_any l i f = true → sm_any l i g = true := by
  intro l i h
  rw [sm_any_iff, sm_any_iff]
  rintro ⟨j, h1, h2, h3⟩
  exact ⟨j, h1, h2, h j h3⟩
theorem sm_dne {p r : Nat} (h : p ≠ r) : ¬ (sm_cx r - sm_cx p = 0 ∧ sm_cy r - sm_cy p = 0) := fun z => h (sm_cxy (by omega) (by omega))
theorem sm_mq {a b q : Int} (hq : 0 < q) (h : a - b ≠ 0) : a * q ≠ b * q := fun z => h (by
  have e : (a - b) * q = 0 := by rw [Int.sub_mul, z, Int.sub_self]
  rcases Int.mul_eq_zero.mp e with y | y
  · exact y
  · omega)
/-- one of two that are one behind the other: the way to the nearer one is a part of the way to the further one -/
theorem sm_st2 {S : sm_fs} {a b : Nat} {px py q dx dy : Int} (hq : 0 < q) (hd : ¬ (dx = 0 ∧ dy = 0)) (h1 : (sm_cx a * q - px) * dy = (sm_cy a * q - py) * dx) (h2 : (sm_cx b * q - px) * dy = (sm_cy b * q - py) * dx) (n1 : ¬ (sm_cx a * q = px ∧ sm_cy a * q = py)) (n2 : ¬ (sm_cx b * q = px ∧ sm_cy b * q = py)) (hx : dx ≠ 0 → (px < sm_cx a * q ∧ sm_cx a * q < sm_cx b * q) ∨ (sm_cx b * q < sm_cx a * q ∧ sm_cx a * q < px)) (hy : dx = 0 → (py < sm_cy a * q ∧ sm_cy a * q < sm_cy b * q) ∨ (sm_cy b * q < sm_cy a * q ∧ sm_cy a * q < py)) : (!(sm_gst S px py q a) && !(sm_gst S px py q b)) = !(sm_xst S px py q b dx dy) := by
  have e2 : sm_gst S px py q b = sm_xst S px py q b dx dy := sm_any_cg (fun j _ _ => g_cut_i hq hd h2 n2)
  have e1 : sm_gst S px py q a = sm_xst S px py q a dx dy := sm_any_cg (fun j _ _ => g_cut_i hq hd h1 n1)
  have i : sm_xst S px py q a dx dy = true → sm_xst S px py q b dx dy = true := sm_any_imp (fun j => g_nf hq hd h2 h1 hx hy)
  rw [e1, e2]
  cases ha : sm_xst S px py q a dx dy with
  | false => simp
  | true => rw [i ha]; rfl
theorem sm_up_i {S : sm_fs} {F : sm_lf} {A B : sm_tw} {k : Nat} {px py q : Int} (hq : 0 < q) (hne : A.1 ≠ B.1) (hl : (sm_cx B.1 - sm_cx A.1) * (py - sm_cy A.1 * q) - (sm_cy B.1 - sm_cy A.1) * (px - sm_cx A.1 * q) = 0) {toS toT : Int} (hS : toS = if sm_cx B.1 - sm_cx A.1 = 0 then sm_cy A.1 * q - py else sm_cx A.1 * q - px) (hT : toT = if sm_cx B.1 - sm_cx A.1 = 0 then sm_cy B.1 * q - py else sm_cx B.1 * q - px) : sm_inl S F A B k px py q = (g_sgn toS toT && (if g_abs toS < g_abs toT then sm_cnt F A B k && !(sm_xst S px py q B.1 (sm_cx B.1 - sm_cx A.1) (sm_cy B.1 - sm_cy A.1)) else sm_cnt F B A k && !(sm_xst S px py q A.1 (sm_cx B.1 - sm_cx A.1) (sm_cy B.1 - sm_cy A.1)))) := by
  have hd := sm_dne hne
  obtain ⟨g1, g2⟩ := g_beh_i (q := q) (px := px) (py := py) hd hl
  rw [← hS, ← hT] at g1 g2
  unfold sm_inl sm_bh sm_fr
  rw [g1]
  cases hs : g_sgn toS toT with
  | false => simp
  | true =>
    have hs' := hs
    unfold g_sgn at hs'
    rw [decide_eq_true_iff] at hs'
    obtain ⟨s1, s2, s3⟩ := hs'
    have lA : (sm_cx A.1 * q - px) * (sm_cy B.1 - sm_cy A.1) = (sm_cy A.1 * q - py) * (sm_cx B.1 - sm_cx A.1) := by clear hS hT hs g1 g2 s1 s2 s3 hd; grind
    have lB : (sm_cx B.1 * q - px) * (sm_cy B.1 - sm_cy A.1) = (sm_cy B.1 * q - py) * (sm_cx B.1 - sm_cx A.1) := by clear hS hT hs g1 g2 s1 s2 s3 hd; grind
    have nA : ¬ (sm_cx A.1 * q = px ∧ sm_cy A.1 * q = py) := by
      rintro ⟨z1, z2⟩
      apply s1
      rw [hS]
      split <;> omega
    have nB : ¬ (sm_cx B.1 * q = px ∧ sm_cy B.1 * q = py) := by
      rintro ⟨z1, z2⟩
      apply s2
      rw [hT]
      split <;> omega
    have hne' : toS ≠ toT := by
      intro z
      rw [hS, hT] at z
      by_cases h0 : sm_cx B.1 - sm_cx A.1 = 0
      · rw [if_pos h0, if_pos h0] at z
        exact sm_mq hq (show sm_cy B.1 - sm_cy A.1 ≠ 0 from fun y => hd ⟨h0, y⟩) (by omega)
      · rw [if_neg h0, if_neg h0] at z
        exact sm_mq hq h0 (by omega)
    by_cases hab : g_abs toS < g_abs toT
    · rw [if_pos hab, if_pos (g2.mpr hab)]
      have key := sm_st2 (S := S) (dx := sm_cx B.1 - sm_cx A.1) (dy := sm_cy B.1 - sm_cy A.1) hq hd lA lB nA nB (by
        intro h0
        rw [if_neg h0] at hS hT
        unfold g_abs at hab
        clear lA lB g1 g2 nA nB hd hl hs
        split at hab <;> split at hab <;> omega) (by
        intro h0
        rw [if_pos h0] at hS hT
        unfold g_abs at hab
        clear lA lB g1 g2 nA nB hd hl hs
        split at hab <;> split at hab <;> omega)
      rw [← key]
      cases sm_gst S px py q A.1 <;> cases sm_gst S px py q B.1 <;> cases sm_cnt F A B k <;> rfl
    · rw [if_neg hab, if_neg (fun z => hab (g2.mp z))]
      have key := sm_st2 (S := S) (a := B.1) (b := A.1) (dx := sm_cx B.1 - sm_cx A.1) (dy := sm_cy B.1 - sm_cy A.1) hq hd lB lA nB nA (by
        intro h0
        rw [if_neg h0] at hS hT
        unfold g_abs at hab
        clear lA lB g1 g2 nA nB hd hl hs
        split at hab <;> split at hab <;> omega) (by
        intro h0
        rw [if_pos h0] at hS hT
        unfold g_abs at hab
        clear lA lB g1 g2 nA nB hd hl hs
        split at hab <;> split at hab <;> omega)
      rw [← key]
      cases sm_gst S px py q A.1 <;> cases sm_gst S px py q B.1 <;> cases sm_cnt F B A k <;> rfl
theorem sm_iabs {a : Int} (h1 : -2147483648 < a) (h2 : a < 2147483648) : gk_abs (sm_i a) = sm_i (g_abs a) := by
  unfold gk_abs g_abs
  simp only [(sm_i0lt (by omega) h2).2.2.2.1]
  by_cases h : 0 ≤ a
  · rw [if_pos h, if_pos h]
  · rw [if_neg h, if_neg h, show (0 : Int32) = sm_i 0 from rfl, sm_i_sub]
section XU
variable {n : Nat} {T : Nat → sm_tw} {R : sm_rd} {S : sm_fs} {F : sm_lf} {m0 m : gk_M}
theorem x_up179 (hq : sm_q n T R S F m0 m) {k s t : Nat} (hk : k < 5) (hs : s < 12) (ht : t < 12) {px py q dx dy : Int} (hr : sm_rg px py q) (hdx : -29 ≤ dx ∧ dx ≤ 29) (hdy : -29 ≤ dy ∧ dy ≤ 29) : sm_ok (f_Plain_lineUp_179 (sm_i px) (sm_i py) (sm_i q) (sm_n k) (sm_i dx) (sm_i dy) (sm_n s) (sm_n t) m) (sm_b2 (sm_cnt F (T s) (T t) k && !(sm_xst S px py q (T t).1 dx dy))) (sm_q n T R S F m0) := by
  unfold f_Plain_lineUp_179
  refine sm_okb (x_counts hq hk hs ht) (fun m1 h1 => ?_)
  cases sm_cnt F (T s) (T t) k with
  | false => rw [if_pos (show sm_b2 false = 0 from rfl)]; exact sm_okr h1
  | true =>
    rw [if_neg (show ¬ sm_b2 true = 0 by decide), x_isStopped h1.1.2.2.2.2.1 ht (h1.1.2.2.1 t ht) hr hdx hdy, sm_bi]
    cases sm_xst S px py q (T t).1 dx dy with
    | false => rw [if_neg (show ¬ ¬ sm_b2 false = 0 from fun z => z rfl)]; exact sm_okr h1
    | true => rw [if_pos (show ¬ sm_b2 true = 0 by decide)]; exact sm_okr h1
theorem x_lineUp (hq : sm_q n T R S F m0 m) {k s t : Nat} (hk : k < 5) (hs : s < 12) (ht : t < 12) (hne : (T s).1 ≠ (T t).1) {px py q : Int} (hr : sm_rg px py q) (hl : (sm_cx (T t).1 - sm_cx (T s).1) * (py - sm_cy (T s).1 * q) - (sm_cy (T t).1 - sm_cy (T s).1) * (px - sm_cx (T s).1 * q) = 0) : sm_ok (f_Plain_lineUp (sm_i px) (sm_i py) (sm_i q) (sm_n k) (sm_n s) (sm_n t) m) (sm_b2 (sm_inl S F (T s) (T t) k px py q)) (sm_q n T R S F m0) := by
  have X := hq.1.2.2.1 s hs
  have Y := hq.1.2.2.1 t ht
  obtain ⟨r1, r2, r3, r4, r5, r6⟩ := id hr
  have k1 := sm_cxb (T s).1
  have k2 := sm_cyb X.1
  have k3 := sm_cxb (T t).1
  have k4 := sm_cyb Y.1
  have bdx : -29 ≤ sm_cx (T t).1 - sm_cx (T s).1 ∧ sm_cx (T t).1 - sm_cx (T s).1 ≤ 29 := by omega
  have bdy : -29 ≤ sm_cy (T t).1 - sm_cy (T s).1 ∧ sm_cy (T t).1 - sm_cy (T s).1 ≤ 29 := by omega
  have q1 := sm_mb (A := 29) (B := 4000) (a := sm_cx (T s).1) (b := q) (by omega) (by omega)
  have q2 := sm_mb (A := 29) (B := 4000) (a := sm_cy (T s).1) (b := q) (by omega) (by omega)
  have q3 := sm_mb (A := 29) (B := 4000) (a := sm_cx (T t).1) (b := q) (by omega) (by omega)
  have q4 := sm_mb (A := 29) (B := 4000) (a := sm_cy (T t).1) (b := q) (by omega) (by omega)
  obtain ⟨toS, hS⟩ : ∃ v, v = if sm_cx (T t).1 - sm_cx (T s).1 = 0 then sm_cy (T s).1 * q - py else sm_cx (T s).1 * q - px := ⟨_, rfl⟩
  obtain ⟨toT, hT⟩ : ∃ v, v = if sm_cx (T t).1 - sm_cx (T s).1 = 0 then sm_cy (T t).1 * q - py else sm_cx (T t).1 * q - px := ⟨_, rfl⟩
  rw [sm_up_i r5 hne hl hS hT]
  have zd := (sm_i0lt (a := sm_cx (T t).1 - sm_cx (T s).1) (by omega) (by omega)).2.2.2.2
  have bS : -400000 ≤ toS ∧ toS ≤ 400000 := by rw [hS]; split <;> omega
  have bT : -400000 ≤ toT ∧ toT ≤ 400000 := by rw [hT]; split <;> omega
  have e : f_Plain_lineUp (sm_i px) (sm_i py) (sm_i q) (sm_n k) (sm_n s) (sm_n t) m = f_Plain_lineUp_96 (sm_i px) (sm_i py) (sm_i q) (sm_n k) (sm_n s) (sm_n t) (sm_i (sm_cx (T t).1 - sm_cx (T s).1)) (sm_i (sm_cy (T t).1 - sm_cy (T s).1)) (sm_i toS) (sm_i toT) m := by
    unfold f_Plain_lineUp f_Plain_lineUp_64
    simp (disch := omega) only [sm_ai, sm_let, X.2.1, X.2.2.1, Y.2.1, Y.2.2.1, sm_cxn, sm_cyn, sm_i_sub, sm_i_mul]
    by_cases h0 : sm_cx (T t).1 - sm_cx (T s).1 = 0
    · rw [if_pos (zd.mpr h0), if_pos (zd.mpr h0), hS, hT, if_pos h0, if_pos h0]
    · rw [if_neg (fun z => h0 (zd.mp z)), if_neg (fun z => h0 (zd.mp z)), hS, hT, if_neg h0, if_neg h0]
  rw [e]
  clear e q1 q2 q3 q4 hS hT
  obtain ⟨a1, a2, a3, a4, a5⟩ := sm_i0lt (a := toS) (by omega) (by omega)
  obtain ⟨b1, b2, b3, b4, b5⟩ := sm_i0lt (a := toT) (by omega) (by omega)
  have fin : ∀ c : Int32, f_Plain_lineUp_128 (sm_i px) (sm_i py) (sm_i q) (sm_n k) (sm_n s) (sm_n t) (sm_i (sm_cx (T t).1 - sm_cx (T s).1)) (sm_i (sm_cy (T t).1 - sm_cy (T s).1)) (sm_i toS) (sm_i toT) c c m = if g_abs toS < g_abs toT then f_Plain_lineUp_179 (sm_i px) (sm_i py) (sm_i q) (sm_n k) (sm_i (sm_cx (T t).1 - sm_cx (T s).1)) (sm_i (sm_cy (T t).1 - sm_cy (T s).1)) (sm_n s) (sm_n t) m else f_Plain_lineUp_179 (sm_i px) (sm_i py) (sm_i q) (sm_n k) (sm_i (sm_cx (T t).1 - sm_cx (T s).1)) (sm_i (sm_cy (T t).1 - sm_cy (T s).1)) (sm_n t) (sm_n s) m := by
    intro c
    have gS : 0 ≤ g_abs toS ∧ g_abs toS ≤ 400000 := by unfold g_abs; split <;> omega
    have gT : 0 ≤ g_abs toT ∧ g_abs toT ≤ 400000 := by unfold g_abs; split <;> omega
    unfold f_Plain_lineUp_128 f_Plain_lineUp_151 f_Plain_lineUp_165
    rw [if_pos rfl, sm_iabs (by omega) (by omega), sm_iabs (by omega) (by omega)]
    by_cases h : g_abs toS < g_abs toT
    · rw [if_neg (by rw [sm_ile (by omega) (by omega) (by omega) (by omega)]; omega), if_neg (by decide), if_neg (by decide), if_pos h]
    · rw [if_pos (by rw [sm_ile (by omega) (by omega) (by omega) (by omega)]; omega), if_pos rfl, if_pos rfl, if_neg h]
  have run : g_sgn toS toT = true → ∀ c : Int32, sm_ok (f_Plain_lineUp_128 (sm_i px) (sm_i py) (sm_i q) (sm_n k) (sm_n s) (sm_n t) (sm_i (sm_cx (T t).1 - sm_cx (T s).1)) (sm_i (sm_cy (T t).1 - sm_cy (T s).1)) (sm_i toS) (sm_i toT) c c m) (sm_b2 (g_sgn toS toT && (if g_abs toS < g_abs toT then sm_cnt F (T s) (T t) k && !(sm_xst S px py q (T t).1 (sm_cx (T t).1 - sm_cx (T s).1) (sm_cy (T t).1 - sm_cy (T s).1)) else sm_cnt F (T t) (T s) k && !(sm_xst S px py q (T s).1 (sm_cx (T t).1 - sm_cx (T s).1) (sm_cy (T t).1 - sm_cy (T s).1))))) (sm_q n T R S F m0) := by
    intro hs' c
    rw [fin c, hs', Bool.true_and]
    by_cases h : g_abs toS < g_abs toT
    · rw [if_pos h, if_pos h]
      exact x_up179 hq hk hs ht hr bdx bdy
    · rw [if_neg h, if_neg h]
      exact x_up179 hq hk ht hs hr bdx bdy
  have no : g_sgn toS toT = false → sm_ok (some ((0 : Int32), m)) (sm_b2 (g_sgn toS toT && (if g_abs toS < g_abs toT then sm_cnt F (T s) (T t) k && !(sm_xst S px py q (T t).1 (sm_cx (T t).1 - sm_cx (T s).1) (sm_cy (T t).1 - sm_cy (T s).1)) else sm_cnt F (T t) (T s) k && !(sm_xst S px py q (T s).1 (sm_cx (T t).1 - sm_cx (T s).1) (sm_cy (T t).1 - sm_cy (T s).1))))) (sm_q n T R S F m0) := by
    intro h
    rw [h, Bool.false_and]
    exact sm_okr hq
  unfold f_Plain_lineUp_96 f_Plain_lineUp_118
  clear fin
  by_cases h1 : toS = 0
  · rw [if_pos (a5.mpr h1)]
    exact no (by unfold g_sgn; rw [decide_eq_false_iff_not]; omega)
  rw [if_neg (fun z => h1 (a5.mp z))]
  by_cases h2 : toT = 0
  · rw [if_pos (b5.mpr h2)]
    exact no (by unfold g_sgn; rw [decide_eq_false_iff_not]; omega)
  rw [if_neg (fun z => h2 (b5.mp z))]
  by_cases h3 : toS ≤ 0
  · rw [if_pos (a3.mpr h3)]
    by_cases h4 : toT ≤ 0
    · rw [if_pos (b3.mpr h4)]
      exact run (by unfold g_sgn; rw [decide_eq_true_iff]; omega) 0
    · rw [if_neg (fun z => h4 (b3.mp z))]
      unfold f_Plain_lineUp_128
      rw [if_neg (by decide)]
      exact no (by unfold g_sgn; rw [decide_eq_false_iff_not]; omega)
  · rw [if_neg (fun z => h3 (a3.mp z))]
    by_cases h4 : toT ≤ 0
    · rw [if_pos (b3.mpr h4)]
      unfold f_Plain_lineUp_128
      rw [if_neg (by decide)]
      exact no (by unfold g_sgn; rw [decide_eq_false_iff_not]; omega)
    · rw [if_neg (fun z => h4 (b3.mp z))]
      exact run (by unfold g_sgn; rw [decide_eq_true_iff]; omega) 1
end XU
