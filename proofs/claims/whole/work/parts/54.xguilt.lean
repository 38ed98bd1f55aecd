/-! SIM: in line at a point, guilty on a stretch: the class -/
def sm_sd (A B : sm_tw) (p : Nat) : Int := (sm_cx B.1 - sm_cx A.1) * (sm_cy p - sm_cy A.1) - (sm_cy B.1 - sm_cy A.1) * (sm_cx p - sm_cx A.1)
def sm_at_ (S : sm_fs) (F : sm_lf) (A B : sm_tw) (k p : Nat) : Bool := sm_inl S F A B k (sm_cx p) (sm_cy p) 1
def sm_pq (A B : sm_tw) (a b : Nat) : Int := g_abs (sm_sd A B a) + g_abs (sm_sd A B b)
def sm_px (A B : sm_tw) (a b : Nat) : Int := sm_cx a * sm_pq A B a b + (sm_cx b - sm_cx a) * g_abs (sm_sd A B a)
def sm_py (A B : sm_tw) (a b : Nat) : Int := sm_cy a * sm_pq A B a b + (sm_cy b - sm_cy a) * g_abs (sm_sd A B a)
def sm_gl (S : sm_fs) (F : sm_lf) (A B : sm_tw) (k a b : Nat) : Bool := if sm_sd A B a = 0 ∧ sm_sd A B b = 0 then sm_at_ S F A B k a || sm_at_ S F A B k b else if g_two (sm_sd A B a) (sm_sd A B b) = true then false else sm_inl S F A B k (sm_px A B a b) (sm_py A B a b) (sm_pq A B a b)
def sm_ga (S : sm_fs) (F : sm_lf) (A B : sm_tw) (k a b : Nat) : Int := if sm_sd A B a = 0 ∧ sm_sd A B b = 0 then (if sm_at_ S F A B k a = true then 0 else 1) else g_abs (sm_sd A B a)
def sm_gb (A B : sm_tw) (a b : Nat) : Int := if sm_sd A B a = 0 ∧ sm_sd A B b = 0 then 1 else sm_pq A B a b
def sm_gv (S : sm_fs) (F : sm_lf) (A B : sm_tw) (k a b : Nat) : Int := if sm_gl S F A B k a b = true then sm_ga S F A B k a b * 4096 + sm_gb A B a b else -1
theorem sm_sdb {A B : sm_tw} {p : Nat} (hA : A.1 < 900) (hB : B.1 < 900) (hp : p < 900) : -1682 ≤ sm_sd A B p ∧ sm_sd A B p ≤ 1682 := by
  have k1 := sm_cxb A.1
  have k2 := sm_cyb hA
  have k3 := sm_cxb B.1
  have k4 := sm_cyb hB
  have k5 := sm_cxb p
  have k6 := sm_cyb hp
  have m1 := sm_mb (A := 29) (B := 29) (a := sm_cx B.1 - sm_cx A.1) (b := sm_cy p - sm_cy A.1) (by omega) (by omega)
  have m2 := sm_mb (A := 29) (B := 29) (a := sm_cy B.1 - sm_cy A.1) (b := sm_cx p - sm_cx A.1) (by omega) (by omega)
  unfold sm_sd
  omega
theorem g_absb {a c : Int} (h : -c ≤ a ∧ a ≤ c) : 0 ≤ g_abs a ∧ g_abs a ≤ c ∧ (g_abs a = 0 ↔ a = 0) := by
  unfold g_abs; split <;> omega
theorem sm_prg {A B : sm_tw} {a b : Nat} (hA : A.1 < 900) (hB : B.1 < 900) (ha : a < 900) (hb : b < 900) (h0 : ¬ (sm_sd A B a = 0 ∧ sm_sd A B b = 0)) : sm_rg (sm_px A B a b) (sm_py A B a b) (sm_pq A B a b) ∧ sm_pq A B a b ≤ 3364 := by
  have s1 := g_absb (sm_sdb hA hB ha)
  have s2 := g_absb (sm_sdb hA hB hb)
  have k1 := sm_cxb a
  have k2 := sm_cyb ha
  have k3 := sm_cxb b
  have k4 := sm_cyb hb
  have hq : sm_pq A B a b = g_abs (sm_sd A B a) + g_abs (sm_sd A B b) := rfl
  have m1 := sm_mb (A := 29) (B := 3364) (a := sm_cx a) (b := sm_pq A B a b) (by omega) (by omega)
  have m2 := sm_mb (A := 29) (B := 1682) (a := sm_cx b - sm_cx a) (b := g_abs (sm_sd A B a)) (by omega) (by omega)
  have m3 := sm_mb (A := 29) (B := 3364) (a := sm_cy a) (b := sm_pq A B a b) (by omega) (by omega)
  have m4 := sm_mb (A := 29) (B := 1682) (a := sm_cy b - sm_cy a) (b := g_abs (sm_sd A B a)) (by omega) (by omega)
  unfold sm_rg sm_px sm_py
  omega
theorem sm_pl {A B : sm_tw} {a b : Nat} (ht : g_two (sm_sd A B a) (sm_sd A B b) = false) : (sm_cx B.1 - sm_cx A.1) * (sm_py A B a b - sm_cy A.1 * sm_pq A B a b) - (sm_cy B.1 - sm_cy A.1) * (sm_px A B a b - sm_cx A.1 * sm_pq A B a b) = 0 := by
  have e : (sm_cx B.1 - sm_cx A.1) * (sm_py A B a b - sm_cy A.1 * sm_pq A B a b) - (sm_cy B.1 - sm_cy A.1) * (sm_px A B a b - sm_cx A.1 * sm_pq A B a b) = sm_pq A B a b * sm_sd A B a + g_abs (sm_sd A B a) * (sm_sd A B b - sm_sd A B a) := by
    unfold sm_px sm_py sm_sd
    clear ht
    generalize sm_pq A B a b = q
    generalize g_abs _ = u
    grind
  rw [e]
  unfold sm_pq
  unfold g_two at ht
  rw [decide_eq_false_iff_not] at ht
  generalize sm_sd A B a = x at *
  generalize sm_sd A B b = y at *
  clear e
  unfold g_abs
  by_cases h1 : 0 ≤ x
  · rw [if_pos h1]
    by_cases h2 : 0 ≤ y
    · rw [if_pos h2]
      have : x = 0 ∨ y = 0 := by omega
      rcases this with z | z <;> rw [z] <;> grind
    · rw [if_neg h2]; grind
  · rw [if_neg h1]
    by_cases h2 : 0 ≤ y
    · rw [if_pos h2]; grind
    · exact absurd (Or.inr ⟨by omega, by omega⟩) ht
section XG
variable {n : Nat} {T : Nat → sm_tw} {R : sm_rd} {S : sm_fs} {F : sm_lf} {m0 m : gk_M}
theorem x_areInLine (hq : sm_q n T R S F m0 m) {k s t p : Nat} (hk : k < 5) (hs : s < 12) (ht : t < 12) (hp : p < 900) (hne : (T s).1 ≠ (T t).1) : sm_ok (f_Plain_areInLine (sm_n p) (sm_n k) (sm_n s) (sm_n t) m) (sm_b2 (sm_at_ S F (T s) (T t) k p)) (sm_q n T R S F m0) := by
  have X := hq.1.2.2.1 s hs
  have Y := hq.1.2.2.1 t ht
  have b := sm_sdb X.1 Y.1 hp
  have k5 := sm_cxb p
  have k6 := sm_cyb hp
  have e : (sm_cx (T t).1 - sm_cx (T s).1) * (sm_cy p - sm_cy (T s).1 * 1) - (sm_cy (T t).1 - sm_cy (T s).1) * (sm_cx p - sm_cx (T s).1 * 1) = sm_sd (T s) (T t) p := by rw [Int.mul_one, Int.mul_one]; rfl
  unfold f_Plain_areInLine
  rw [show (30 : Int32) = sm_n 30 from rfl, sm_n_rem (by omega) (by omega), sm_n_div (by omega) (by omega), sm_let, sm_let, sm_cxn, sm_cyn, x_side hs ht X Y, sm_bi]
  rw [show (sm_cx (T t).1 - sm_cx (T s).1) * (sm_cy p - sm_cy (T s).1) - (sm_cy (T t).1 - sm_cy (T s).1) * (sm_cx p - sm_cx (T s).1) = sm_sd (T s) (T t) p from rfl]
  have z := (sm_i0lt (a := sm_sd (T s) (T t) p) (by omega) (by omega)).2.2.2.2
  by_cases h0 : sm_sd (T s) (T t) p = 0
  · rw [if_neg (fun y => y (z.mpr h0))]
    refine sm_okb (x_lineUp (q := 1) hq hk hs ht hne (by unfold sm_rg; omega) (by rw [e]; exact h0)) (fun m1 h1 => ?_)
    unfold sm_at_
    cases sm_inl S F (T s) (T t) k (sm_cx p) (sm_cy p) 1 with
    | false => rw [if_pos (show sm_b2 false = 0 from rfl)]; exact sm_okr h1
    | true => rw [if_neg (show ¬ sm_b2 true = 0 by decide)]; exact sm_okr h1
  · rw [if_pos (fun y => h0 (z.mp y))]
    unfold sm_at_ sm_inl sm_bh
    rw [g_beh_n (q := 1) (by decide) (by rw [e]; exact h0)]
    exact sm_okr hq
theorem x_guiltBetween (hq : sm_q n T R S F m0 m) {k s t a b : Nat} (hk : k < 5) (hs : s < 12) (ht : t < 12) (ha : a < 900) (hb : b < 900) (hne : (T s).1 ≠ (T t).1) : sm_ok (f_Plain_guiltBetween (sm_n a) (sm_n b) (sm_n k) (sm_n s) (sm_n t) m) (sm_i (sm_gv S F (T s) (T t) k a b)) (sm_q n T R S F m0) := by
  have X := hq.1.2.2.1 s hs
  have Y := hq.1.2.2.1 t ht
  have b1 := sm_sdb X.1 Y.1 ha
  have b2 := sm_sdb X.1 Y.1 hb
  have k5 := sm_cxb a
  have k6 := sm_cyb ha
  have k7 := sm_cxb b
  have k8 := sm_cyb hb
  unfold f_Plain_guiltBetween
  rw [show (30 : Int32) = sm_n 30 from rfl, sm_n_rem (by omega) (by omega), sm_n_div (by omega) (by omega), sm_n_rem (by omega) (by omega), sm_n_div (by omega) (by omega), sm_let, sm_let, sm_let, sm_let, sm_cxn, sm_cyn, sm_cxn, sm_cyn, x_side hs ht X Y, sm_bi, x_side hs ht X Y, sm_bi]
  rw [show (sm_cx (T t).1 - sm_cx (T s).1) * (sm_cy a - sm_cy (T s).1) - (sm_cy (T t).1 - sm_cy (T s).1) * (sm_cx a - sm_cx (T s).1) = sm_sd (T s) (T t) a from rfl]
  rw [show (sm_cx (T t).1 - sm_cx (T s).1) * (sm_cy b - sm_cy (T s).1) - (sm_cy (T t).1 - sm_cy (T s).1) * (sm_cx b - sm_cx (T s).1) = sm_sd (T s) (T t) b from rfl]
  rw [x_two (by omega) (by omega), sm_bi]
  have za := (sm_i0lt (a := sm_sd (T s) (T t) a) (by omega) (by omega)).2.2.2.2
  have zb := (sm_i0lt (a := sm_sd (T s) (T t) b) (by omega) (by omega)).2.2.2.2
  unfold sm_gv sm_gl
  have e1 : ∀ p, sm_sd (T s) (T t) p = 0 → (sm_cx (T t).1 - sm_cx (T s).1) * (sm_cy p - sm_cy (T s).1 * 1) - (sm_cy (T t).1 - sm_cy (T s).1) * (sm_cx p - sm_cx (T s).1 * 1) = 0 := by
    intro p hp
    rw [Int.mul_one, Int.mul_one]; exact hp
  by_cases h0 : sm_sd (T s) (T t) a = 0 ∧ sm_sd (T s) (T t) b = 0
  · rw [if_pos h0, h0.1, h0.2, show sm_b2 (g_two 0 0) = 0 from rfl, if_pos rfl, if_neg (fun z => z rfl), if_neg (fun z => z rfl)]
    unfold sm_ga sm_gb
    rw [if_pos h0, if_pos h0]
    refine sm_okb (x_lineUp (q := 1) hq hk hs ht hne (by unfold sm_rg; omega) (e1 a h0.1)) (fun m1 h1 => ?_)
    rw [show sm_inl S F (T s) (T t) k (sm_cx a) (sm_cy a) 1 = sm_at_ S F (T s) (T t) k a from rfl]
    cases sm_at_ S F (T s) (T t) k a with
    | true =>
      rw [if_neg (show ¬ sm_b2 true = 0 by decide), Bool.true_or, if_pos rfl, if_pos rfl]
      exact sm_okr h1
    | false =>
      rw [if_pos (show sm_b2 false = 0 from rfl), Bool.false_or]
      refine sm_okb (x_lineUp (q := 1) h1 hk hs ht hne (by unfold sm_rg; omega) (e1 b h0.2)) (fun m2 h2 => ?_)
      rw [show sm_inl S F (T s) (T t) k (sm_cx b) (sm_cy b) 1 = sm_at_ S F (T s) (T t) k b from rfl]
      cases sm_at_ S F (T s) (T t) k b with
      | true => rw [if_neg (show ¬ sm_b2 true = 0 by decide), if_pos rfl]; exact sm_okr h2
      | false => rw [if_pos (show sm_b2 false = 0 from rfl), if_neg (by decide)]; exact sm_okr h2
  · rw [if_neg h0]
    cases htw : g_two (sm_sd (T s) (T t) a) (sm_sd (T s) (T t) b) with
    | true =>
      rw [if_neg (show ¬ sm_b2 true = 0 by decide), if_pos rfl, if_neg (by decide)]
      exact sm_okr hq
    | false =>
      rw [if_pos (show sm_b2 false = 0 from rfl)]
      simp only [if_neg Bool.false_ne_true]
      obtain ⟨rg, q4⟩ := sm_prg X.1 Y.1 ha hb h0
      have g := sm_okb (k := fun v6 m5 => if v6 = 0 then some ((-1 : Int32), m5) else some (sm_i (g_abs (sm_sd (T s) (T t) a) * 4096 + sm_pq (T s) (T t) a b), m5)) (w := sm_i (if sm_inl S F (T s) (T t) k (sm_px (T s) (T t) a b) (sm_py (T s) (T t) a b) (sm_pq (T s) (T t) a b) = true then g_abs (sm_sd (T s) (T t) a) * 4096 + sm_pq (T s) (T t) a b else -1)) (Q := sm_q n T R S F m0) (x_lineUp hq hk hs ht hne rg (sm_pl htw)) (by
        intro m1 h1
        cases sm_inl S F (T s) (T t) k (sm_px (T s) (T t) a b) (sm_py (T s) (T t) a b) (sm_pq (T s) (T t) a b) with
        | true => rw [if_neg (show ¬ sm_b2 true = 0 by decide), if_pos rfl]; exact sm_okr h1
        | false => rw [if_pos (show sm_b2 false = 0 from rfl), if_neg (by decide)]; exact sm_okr h1)
      have e : f_Plain_guiltBetween_118 (sm_n k) (sm_n s) (sm_n t) (sm_i (sm_cx a)) (sm_i (sm_cy a)) (sm_i (sm_cx b)) (sm_i (sm_cy b)) (sm_i (sm_sd (T s) (T t) a)) (sm_i (sm_sd (T s) (T t) b)) m = gk_bi (f_Plain_lineUp (sm_i (sm_px (T s) (T t) a b)) (sm_i (sm_py (T s) (T t) a b)) (sm_i (sm_pq (T s) (T t) a b)) (sm_n k) (sm_n s) (sm_n t) m) (fun v6 m5 => if v6 = 0 then some ((-1 : Int32), m5) else some (sm_i (g_abs (sm_sd (T s) (T t) a) * 4096 + sm_pq (T s) (T t) a b), m5)) := by
        unfold f_Plain_guiltBetween_118
        rw [sm_iabs (by omega) (by omega), sm_iabs (by omega) (by omega)]
        simp only [sm_let, sm_i_add, sm_i_sub, sm_i_mul, show (4096 : Int32) = sm_i 4096 from rfl]
        rfl
      have hga : sm_ga S F (T s) (T t) k a b = g_abs (sm_sd (T s) (T t) a) := by unfold sm_ga; rw [if_neg h0]
      have hgb : sm_gb (T s) (T t) a b = sm_pq (T s) (T t) a b := by unfold sm_gb; rw [if_neg h0]
      rw [hga, hgb]
      by_cases ha0 : sm_sd (T s) (T t) a = 0
      · rw [if_neg (show ¬ ¬ sm_i (sm_sd (T s) (T t) a) = 0 from fun y => y (za.mpr ha0)), if_pos (show ¬ sm_i (sm_sd (T s) (T t) b) = 0 from fun y => h0 ⟨ha0, zb.mp y⟩), e]
        exact g
      · rw [if_pos (show ¬ sm_i (sm_sd (T s) (T t) a) = 0 from fun y => ha0 (za.mp y)), e]
        exact g
end XG
