/-! SIM: the best bend, the class -/
theorem rl_q2 {mx mm mx' mm' : gk_M} {n nb : Nat} {TX TM : Nat → sm_tw} {R : sm_rd} {S : sm_fs} {F : sm_lf} (hx : sm_X n TX R S F mx') (f4 : ∀ j, mx'.1 4 j = mx.1 4 j) (f6 : ∀ j, mx'.1 6 j = mx.1 6 j) (f11 : ∀ j, j < n → mx'.1 11 j = mx.1 11 j) (fh : ∀ k j, 28 ≤ k → k ≠ 31 → mx'.1 k j = mx.1 k j) (lx : mx'.2 = mx.2) (hm : sm_M n TM R S F mm') (g0 : ∀ j, j ∈ [4, 5, 16, 36, 39, 42] → mm'.1 0 j = mm.1 0 j) (g1 : ∀ k j, 1 ≤ k → k ≤ 4 → mm'.1 k j = mm.1 k j) (g11 : ∀ j, mm'.1 11 j = mm.1 11 j) (gh : ∀ k j, 19 ≤ k → mm'.1 k j = mm.1 k j) (lm : ∀ j, mm'.2 25 j = mm.2 25 j) (hT : rl_T n TX TM) (hP : rl_pr n mx mm) (hK : rl_tape mx mm) (hS : rl_sight mx mm) (hH : rl_hist n mx mm) (hB : rl_body nb mx mm) (hR : rl_tr mx mm) (hD : rl_sh nb mx mm) : rl_ mx' mm' := by
  refine ⟨n, TX, TM, R, S, F, nb, hx, hm, hT, ?_, rl_tape_fr ?_ ?_ hK, rl_sight_fr ?_ ?_ hS, rl_hist_fr ?_ ?_ (Nat.le_refl n) hH, rl_body_fr ?_ ?_ hB, rl_tr_fr ?_ ?_ hR, rl_sh_fr (Nat.le_refl nb) ?_ ?_ (by intros; rw [lx]) lm hD⟩
  · intro t ht
    obtain ⟨p, p1, p2, p3⟩ := hP t ht
    exact ⟨p, p1, by rw [f11 t ht]; exact p2, by rw [g1 1 _ (by decide) (by decide)]; exact p3⟩
  · intro k j h
    rcases h with ⟨rfl, _⟩ | rfl
    · exact f4 j
    · exact f6 j
  · intro k j h
    rcases h with ⟨rfl, rfl⟩ | rfl
    · exact g0 16 (by decide)
    · exact g11 j
  · intro k j h
    rcases h with ⟨rfl, _⟩ | rfl | rfl <;> exact fh _ j (by decide) (by decide)
  · intro k j h
    rcases h with ⟨rfl, rfl⟩ | rfl | rfl
    · exact g0 36 (by decide)
    · exact gh _ j (by decide)
    · exact gh _ j (by decide)
  · intro k j h
    rcases h with rfl | rfl | rfl | rfl | rfl <;> exact fh _ j (by decide) (by decide)
  · intro k j h
    rcases h with ⟨rfl, rfl | rfl⟩ | rfl | rfl | rfl
    · exact g0 4 (by decide)
    · exact g0 5 (by decide)
    · exact g1 _ j (by decide) (by decide)
    · exact g1 _ j (by decide) (by decide)
    · exact g1 _ j (by decide) (by decide)
  · intro k j h
    rcases h with ⟨rfl, _⟩ | rfl <;> exact fh _ j (by decide) (by decide)
  · intro k j h
    rcases h with ⟨rfl, rfl⟩ | rfl
    · exact g0 39 (by decide)
    · exact gh _ j (by decide)
  · intro k j h
    rcases h with ⟨rfl, _⟩ | rfl <;> exact fh _ j (by decide) (by decide)
  · intro k j h
    rcases h with ⟨rfl, rfl⟩ | rfl
    · exact g0 42 (by decide)
    · exact gh _ j (by decide)
  · intro k j h
    exact fh k j (by omega) (by omega)
  · intro k j h
    rcases h with rfl | rfl <;> exact gh _ j (by decide)
/-- one number is not in a row -/
theorem sm_pig : ∀ (k : Nat) (l : List Nat), l.length ≤ k → ∃ p, p ≤ k ∧ ¬ p ∈ l
  | 0, l, h => by
    have : l = [] := List.length_eq_zero_iff.mp (by omega)
    subst this
    exact ⟨0, Nat.le_refl 0, by simp⟩
  | k + 1, l, h => by
    by_cases hk : k + 1 ∈ l
    · obtain ⟨p, h1, h2⟩ := sm_pig k (l.erase (k + 1)) (by rw [List.length_erase_of_mem hk]; omega)
      exact ⟨p, by omega, fun z => h2 ((List.mem_erase_of_ne (by omega)).mpr z)⟩
    · exact ⟨k + 1, Nat.le_refl _, hk⟩
def sm_bok (n : Nat) (T : Nat → sm_tw) (a b p : Nat) : Bool := !(p == a) && !(p == b) && !(sm_has n T p)
/-- the best point so far, and its guilts -/
def sm_bt (w p : Nat) : Option (Nat × Nat) → Option (Nat × Nat)
  | none => some (p, w)
  | some q => if w < q.2 then some (p, w) else some q
def sm_bs (ok : Nat → Bool) (W : Nat → Nat) (p : Nat) (o : Option (Nat × Nat)) : Option (Nat × Nat) := if ok p = true then sm_bt (W p) p o else o
def sm_bb (ok : Nat → Bool) (W : Nat → Nat) : Nat → Nat → Option (Nat × Nat) → Option (Nat × Nat)
  | 0, _, o => o
  | l + 1, p, o => sm_bb ok W l (p + 1) (sm_bs ok W p o)
theorem sm_bs_no {ok : Nat → Bool} {W : Nat → Nat} {p : Nat} {o : Option (Nat × Nat)} (h : ok p = false) : sm_bs ok W p o = o := by
  unfold sm_bs; rw [h]; exact if_neg Bool.false_ne_true
theorem sm_bs_none {ok : Nat → Bool} {W : Nat → Nat} {p : Nat} (h : ok p = true) : sm_bs ok W p none = some (p, W p) := by
  unfold sm_bs; rw [if_pos h]; rfl
theorem sm_bs_lt {ok : Nat → Bool} {W : Nat → Nat} {p : Nat} {q : Nat × Nat} (h : ok p = true) (hw : W p < q.2) : sm_bs ok W p (some q) = some (p, W p) := by
  unfold sm_bs; rw [if_pos h]; exact if_pos hw
theorem sm_bs_ge {ok : Nat → Bool} {W : Nat → Nat} {p : Nat} {q : Nat × Nat} (hw : ¬ W p < q.2) : sm_bs ok W p (some q) = some q := by
  unfold sm_bs
  split
  · exact if_neg hw
  · rfl
theorem sm_bb0 (ok : Nat → Bool) (W : Nat → Nat) (q : Nat) : ∀ l p, sm_bb ok W l p (some (q, 0)) = some (q, 0)
  | 0, _ => rfl
  | l + 1, p => by
    unfold sm_bb
    rw [sm_bs_ge (show ¬ W p < (q, 0).2 from Nat.not_lt_zero _)]
    exact sm_bb0 ok W q l (p + 1)
theorem sm_bb_some (ok : Nat → Bool) (W : Nat → Nat) : ∀ l p o, (o ≠ none ∨ ∃ j, p ≤ j ∧ j < p + l ∧ ok j = true) → sm_bb ok W l p o ≠ none
  | 0, p, o, h => by
    rcases h with h | ⟨j, h1, h2, _⟩
    · exact h
    · exact absurd h2 (Nat.not_lt.mpr h1)
  | l + 1, p, o, h => by
    unfold sm_bb
    refine sm_bb_some ok W l (p + 1) _ ?_
    cases o with
    | some q =>
      left
      by_cases hk : ok p = true
      · by_cases hw : W p < q.2
        · rw [sm_bs_lt hk hw]; exact fun z => by cases z
        · rw [sm_bs_ge hw]; exact fun z => by cases z
      · rw [sm_bs_no (by simpa using hk)]; exact fun z => by cases z
    | none =>
      by_cases hk : ok p = true
      · left; rw [sm_bs_none hk]; exact fun z => by cases z
      · right
        rcases h with h | ⟨j, h1, h2, h3⟩
        · exact absurd rfl h
        · refine ⟨j, ?_, by omega, h3⟩
          have : j ≠ p := fun e => hk (e ▸ h3)
          omega
theorem sm_bb_lt (ok : Nat → Bool) (W : Nat → Nat) : ∀ l p o q, p + l ≤ 900 → (∀ r, o = some r → r.1 < 900) → sm_bb ok W l p o = some q → q.1 < 900
  | 0, p, o, q, _, ho, h => ho q h
  | l + 1, p, o, q, hl, ho, h => by
    unfold sm_bb at h
    refine sm_bb_lt ok W l (p + 1) _ q (by omega) ?_ h
    intro r hr
    cases o with
    | none =>
      by_cases hk : ok p = true
      · rw [sm_bs_none hk] at hr; cases hr; show p < 900; omega
      · rw [sm_bs_no (by simpa using hk)] at hr; cases hr
    | some s =>
      by_cases hw : W p < s.2
      · by_cases hk : ok p = true
        · rw [sm_bs_lt hk hw] at hr; cases hr; show p < 900; omega
        · rw [sm_bs_no (by simpa using hk)] at hr; exact ho r hr
      · rw [sm_bs_ge hw] at hr; exact ho r hr
section BENT
variable {n : Nat} {T : Nat → sm_tw} {R : sm_rd} {S : sm_fs} {F : sm_lf} {m0 m : gk_M}
def sm_W (n : Nat) (T : Nat → sm_tw) (S : sm_fs) (F : sm_lf) (k a b p : Nat) : Nat := sm_tot n T S F k a p + sm_tot n T S F k p b
def sm_b1 (o : Option (Nat × Nat)) : Int32 := match o with
  | none => -2
  | some q => sm_n q.1
def sm_b2o (o : Option (Nat × Nat)) : Nat := match o with
  | none => 1000000
  | some q => q.2
theorem x_bb (hd : sm_dis n T) {k a b : Nat} (hk : k < 5) (ha : a < 900) (hb : b < 900) : ∀ l p fu o m, p + l = 900 → l < fu → (∀ q, o = some q → q.2 ≤ 200) → sm_q n T R S F m0 m → ∃ m', sm_q n T R S F m0 m' ∧ f_Planner_bestBend_34 fu (sm_n k) (sm_n a) (sm_n b) (sm_b1 o) (sm_n (sm_b2o o)) (sm_n p) m = f_Planner_bestBend_133 (sm_n k) (sm_n a) (sm_n b) (sm_b1 (sm_bb (sm_bok n T a b) (sm_W n T S F k a b) l p o)) (sm_n (sm_b2o (sm_bb (sm_bok n T a b) (sm_W n T S F k a b) l p o))) m'
  | 0, p, fu + 1, o, m, h1, h3, ho, hq => by
    refine ⟨m, hq, ?_⟩
    unfold f_Planner_bestBend_34
    rw [if_pos (by simp (disch := omega) only [sm_lit, sm_nlt, sm_nle, sm_neq, sm_n_add, sm_n_mul, sm_n_div, sm_n_rem, sm_bi, sm_bl, sm_bv, sm_let, sm_zz0, sm_zz1, sm_ai, sm_si, sm_al, sm_sl, sm_ar, sm_mi1, sm_mi0, sm_ml1, sm_ml0, sm_mil, sm_mli]; omega)]
    rfl
  | l + 1, p, fu + 1, o, m, h1, h3, ho, hq => by
    have hn := hq.1.2.1
    have ho2 : sm_b2o o < 2147483648 := by
      cases o with
      | none => show 1000000 < 2147483648; omega
      | some q => have := ho q rfl; show q.2 < 2147483648; omega
    unfold f_Planner_bestBend_34
    rw [if_neg (by simp (disch := omega) only [sm_lit, sm_nlt, sm_nle, sm_neq, sm_n_add, sm_n_mul, sm_n_div, sm_n_rem, sm_bi, sm_bl, sm_bv, sm_let, sm_zz0, sm_zz1, sm_ai, sm_si, sm_al, sm_sl, sm_ar, sm_mi1, sm_mi0, sm_ml1, sm_ml0, sm_mil, sm_mli]; omega)]
    by_cases hz : sm_b2o o = 0
    · rw [if_pos (by simp (disch := omega) only [sm_lit, sm_nlt, sm_nle, sm_neq, sm_n_add, sm_n_mul, sm_n_div, sm_n_rem, sm_bi, sm_bl, sm_bv, sm_let, sm_zz0, sm_zz1, sm_ai, sm_si, sm_al, sm_sl, sm_ar, sm_mi1, sm_mi0, sm_ml1, sm_ml0, sm_mil, sm_mli]; omega)]
      refine ⟨m, hq, ?_⟩
      cases o with
      | none => exact absurd hz (by decide)
      | some q =>
        obtain ⟨q1, q2⟩ := q
        have hz : q2 = 0 := hz
        subst hz
        rw [sm_bb0]
    · rw [if_neg (by simp (disch := omega) only [sm_lit, sm_nlt, sm_nle, sm_neq, sm_n_add, sm_n_mul, sm_n_div, sm_n_rem, sm_bi, sm_bl, sm_bv, sm_let, sm_zz0, sm_zz1, sm_ai, sm_si, sm_al, sm_sl, sm_ar, sm_mi1, sm_mi0, sm_ml1, sm_ml0, sm_mil, sm_mli]; omega), show sm_n p + 1 = sm_n (p + 1) from sm_n_add p 1]
      unfold sm_bb
      have skip : sm_bok n T a b p = false → ∃ m', sm_q n T R S F m0 m' ∧ f_Planner_bestBend_34 fu (sm_n k) (sm_n a) (sm_n b) (sm_b1 o) (sm_n (sm_b2o o)) (sm_n (p + 1)) m = f_Planner_bestBend_133 (sm_n k) (sm_n a) (sm_n b) (sm_b1 (sm_bb (sm_bok n T a b) (sm_W n T S F k a b) l (p + 1) (sm_bs (sm_bok n T a b) (sm_W n T S F k a b) p o))) (sm_n (sm_b2o (sm_bb (sm_bok n T a b) (sm_W n T S F k a b) l (p + 1) (sm_bs (sm_bok n T a b) (sm_W n T S F k a b) p o)))) m' := by
        intro hno
        rw [sm_bs_no hno]
        exact x_bb hd hk ha hb l (p + 1) fu o m (by omega) (by omega) ho hq
      by_cases e1 : p = a
      · rw [if_pos (by rw [e1])]
        exact skip (by unfold sm_bok; rw [e1]; simp)
      rw [if_neg (by rw [sm_neq (by omega) (by omega)]; exact e1)]
      by_cases e2 : p = b
      · rw [if_pos (by rw [e2])]
        exact skip (by unfold sm_bok; rw [e2]; simp)
      rw [if_neg (by rw [sm_neq (by omega) (by omega)]; exact e2), x_hasTower hq.1.1 (by omega) hq.1.2.2.1 (by omega), sm_bi]
      by_cases hh : sm_has n T p = true
      · rw [if_pos hh, if_neg (show ¬ (1 : Int32) = 0 by decide)]
        exact skip (by unfold sm_bok; rw [hh]; simp)
      · have hok : sm_bok n T a b p = true := by
          unfold sm_bok
          simp [e1, e2, hh]
        rw [if_neg hh, if_pos rfl]
        have t1 := sm_totl hn T S F k a p
        have t2 := sm_totl hn T S F k p b
        obtain ⟨m1, g1, q1⟩ := x_guiltsBetween hd hk ha (show p < 900 by omega) ho2 hq
        obtain ⟨m2, g2, q2⟩ := x_guiltsBetween (L := sm_b2o o - min (sm_tot n T S F k a p) (sm_b2o o)) hd hk (show p < 900 by omega) hb (by omega) q1
        rw [g1, sm_bi, sm_n_sub (Nat.min_le_right _ _), g2, sm_bi, sm_let, sm_n_add]
        have ev : (min (sm_tot n T S F k a p) (sm_b2o o) + min (sm_tot n T S F k p b) (sm_b2o o - min (sm_tot n T S F k a p) (sm_b2o o))) = min (sm_W n T S F k a b p) (sm_b2o o) := by unfold sm_W; omega
        rw [ev]
        have hW : sm_W n T S F k a b p ≤ 200 := by unfold sm_W; omega
        by_cases hlt : sm_W n T S F k a b p < sm_b2o o
        · rw [Nat.min_eq_left (by omega), if_neg (by rw [sm_nle (by omega) (by omega)]; omega)]
          have eo : sm_bs (sm_bok n T a b) (sm_W n T S F k a b) p o = some (p, sm_W n T S F k a b p) := by
            cases o with
            | none => exact sm_bs_none hok
            | some q => exact sm_bs_lt hok hlt
          rw [eo]
          exact x_bb hd hk ha hb l (p + 1) fu (some (p, sm_W n T S F k a b p)) m2 (by omega) (by omega) (by intro q hq'; cases hq'; exact hW) q2
        · rw [Nat.min_eq_right (by omega), if_pos (by rw [sm_nle (by omega) (by omega)]; omega)]
          have eo : sm_bs (sm_bok n T a b) (sm_W n T S F k a b) p o = o := by
            cases o with
            | none => exact absurd (Nat.lt_of_le_of_lt hW (by decide : 200 < 1000000)) hlt
            | some q => exact sm_bs_ge hlt
          rw [eo]
          exact x_bb hd hk ha hb l (p + 1) fu o m2 (by omega) (by omega) ho q2
end BENT
